/-! ===== the text as both sides have it ===== -/
def Tx (m : Mem) (t : Int → Int) (n : Int) : Prop := m 2 3 = n ∧ (0 ≤ n ∧ n ≤ 200) ∧ ∀ k, 0 ≤ k → k < n → m 3 k = t k
theorem Tx.c {m m' : Mem} {t : Int → Int} {n : Int} (h : Tx m t n) (h2 : m' 2 3 = m 2 3) (h3 : m' 3 = m 3) : Tx m' t n := by
  unfold Tx
  rw [h2, h3]
  exact h
theorem sg_c {t t' : Int → Int} {n a c : Int} (h : ∀ k, 0 ≤ k → k < n → t k = t' k) (ha : 0 ≤ a) : sg t n a c = sg t' n a c := by
  unfold sg
  by_cases e : a < n
  · rw [h a ha e]
  · rw [if_neg (fun q => e q.1), if_neg (fun q => e q.1)]
theorem fgB_c {t t' : Int → Int} {n a : Int} (h : ∀ k, 0 ≤ k → k < n → t k = t' k) (ha : 0 ≤ a) : fgB t n a = fgB t' n a := by
  rw [Bool.eq_iff_iff, fgB_iff, fgB_iff]
  by_cases e : a < n
  · rw [h a ha e]
  · exact ⟨fun q => absurd q.1 e, fun q => absurd q.1 e⟩
theorem nf_c {t t' : Int → Int} {n a : Int} (h : ∀ k, 0 ≤ k → k < n → t k = t' k) (ha : 0 ≤ a) : nf t n a = nf t' n a := by
  unfold nf
  rw [fgB_c h ha, fgB_c (a := a + 1) h (by omega)]
theorem nv_c {t t' : Int → Int} {n a : Int} (h : ∀ k, 0 ≤ k → k < n → t k = t' k) (ha : 0 ≤ a) : nv t n a = nv t' n a := by
  unfold nv
  rw [fgB_c h ha, fgB_c (a := a + 1) h (by omega)]
  by_cases e : fgB t' n a = true
  · have e1 := (fgB_iff.mp e).1
    rw [if_pos e, if_pos e, h a ha e1]
    by_cases f : fgB t' n (a + 1) = true
    · have f1 := (fgB_iff.mp f).1
      rw [if_pos f, if_pos f, h (a + 1) (by omega) f1]
    · rw [if_neg f, if_neg f]
  · rw [if_neg e, if_neg e]
theorem nf_r (t : Int → Int) (n a : Int) : 0 ≤ nf t n a ∧ nf t n a ≤ 2 := by unfold nf; split <;> (try split) <;> decide
theorem nf_n {t : Int → Int} {n a : Int} : nf t n a = 0 ∨ a + nf t n a ≤ n := by
  unfold nf
  by_cases e : fgB t n a = true
  · have e1 := fgB_iff.mp e
    by_cases f : fgB t n (a + 1) = true
    · have f1 := fgB_iff.mp f
      rw [if_pos e, if_pos f]; omega
    · rw [if_pos e, if_neg f]; omega
  · rw [if_neg e]; exact Or.inl rfl
theorem nv_r {t : Int → Int} {n a : Int} (h : 0 ≤ nv t n a) : 1 ≤ nf t n a ∧ nv t n a ≤ 99 := by
  unfold nv at *
  unfold nf
  by_cases e : fgB t n a = true
  · have e1 := fgB_iff.mp e
    by_cases f : fgB t n (a + 1) = true
    · have f1 := fgB_iff.mp f
      rw [if_pos e, if_pos f, if_pos e, if_pos f]; omega
    · rw [if_pos e, if_neg f, if_pos e, if_neg f]; omega
  · rw [if_neg e] at h; omega
theorem nv_m (t : Int → Int) (n a : Int) : -4 ≤ nv t n a ∧ nv t n a ≤ 99 := by
  by_cases h : 0 ≤ nv t n a
  · exact ⟨by omega, (nv_r h).2⟩
  · refine ⟨?_, by omega⟩
    unfold nv at *
    by_cases e : fgB t n a = true
    · have e1 := fgB_iff.mp e
      by_cases f : fgB t n (a + 1) = true
      · have f1 := fgB_iff.mp f
        rw [if_pos e, if_pos f]; omega
      · rw [if_pos e, if_neg f]; omega
    · rw [if_neg e]; decide
theorem nr_v {t : Int → Int} {n a lo hi : Int} (hlo : 0 ≤ lo) : (nr t n a lo hi = nv t n a ∧ lo ≤ nv t n a ∧ nv t n a ≤ hi) ∨ (nr t n a lo hi = -1 ∧ ¬ (lo ≤ nv t n a ∧ nv t n a ≤ hi)) := by
  unfold nr
  by_cases e : lo ≤ nv t n a ∧ nv t n a ≤ hi
  · have := nv_r (t := t) (n := n) (a := a) (by omega)
    rw [if_pos ⟨this.1, e⟩]; exact Or.inl ⟨rfl, e⟩
  · rw [if_neg (fun q => e q.2)]; exact Or.inr ⟨rfl, e⟩
theorem sg_r (t : Int → Int) (n a c : Int) : sg t n a c = 0 ∨ sg t n a c = 1 := by unfold sg; split <;> decide
theorem sg_1 {t : Int → Int} {n a c : Int} : sg t n a c = 1 ↔ a < n ∧ t a = c := by
  unfold sg
  by_cases e : a < n ∧ t a = c
  · rw [if_pos e]; exact ⟨fun _ => e, fun _ => rfl⟩
  · rw [if_neg e]; exact ⟨fun q => absurd q (by decide), fun q => absurd q e⟩
theorem uTake {g : Shp} {m : Mem} {c a n : Int} {t : Int → Int} (ht : Tx m t n) (ha : m 2 2 = a) (h0 : 0 ≤ a) : T (eX8_take g c m) (fun q => q.1 = sg t n a c ∧ q.2 2 2 = a + sg t n a c ∧ (∀ b, b ≠ 2 → q.2 2 b = m 2 b) ∧ ∀ a, a ≠ 2 → q.2 a = m a) := by
  obtain ⟨h1, h2, h3⟩ := ht
  have := tX8_take (g := g) (m := m) (c := c) (by omega) (by omega)
  rw [h1, ha, sg_c h3 h0] at this
  exact this
theorem uNum {g : Shp} {m : Mem} {lo hi a n : Int} {t : Int → Int} (ht : Tx m t n) (ha : m 2 2 = a) (h0 : 0 ≤ a) : T (eX8_readNumber g lo hi m) (fun q => q.1 = nr t n a lo hi ∧ q.2 2 2 = a + nf t n a ∧ (∀ b, b ≠ 2 → q.2 2 b = m 2 b) ∧ ∀ a, a ≠ 2 → q.2 a = m a) := by
  obtain ⟨h1, h2, h3⟩ := ht
  have := tX8_readNumber (g := g) (m := m) (lo := lo) (hi := hi) (by omega) (by omega)
  rw [h1, ha, nf_c h3 h0, show nr (m 3) n a lo hi = nr t n a lo hi by unfold nr; rw [nf_c h3 h0, nv_c h3 h0]] at this
  exact this
/-! ===== one run of a line, told by a letter and a number ===== -/
def wX (c : Int) : Int := if c = 114 then 1 else if c = 108 then -1 else 0
def wY (c : Int) : Int := if c = 100 then 1 else if c = 117 then -1 else 0
def wA (c : Int) : Int := if c = 114 ∨ c = 108 then 1 else 0
def wC (c : Int) : Prop := c = 114 ∨ c = 108 ∨ c = 117 ∨ c = 100
def rnOk (t : Int → Int) (n a : Int) (s : Ls) : Prop := (a < n ∧ wC (t a)) ∧ (1 ≤ nv t n (a + 1) ∧ nv t n (a + 1) ≤ 12) ∧ lsOk (wX (t a)) (wY (t a)) (wA (t a)) (nv t n (a + 1)) s
def rnA (t : Int → Int) (n a : Int) : Int := a + 1 + nf t n (a + 1)
def rnS (t : Int → Int) (n a : Int) (s : Ls) : Ls := lsGo (wX (t a)) (wY (t a)) (wA (t a)) (nv t n (a + 1)) s
theorem rnOk.w {t : Int → Int} {n a : Int} {s : Ls} (h : rnOk t n a s) (hw : WLs s) : WLs (rnS t n a s) := hw.go h.2.1 h.2.2
theorem rnOk.a {t : Int → Int} {n a : Int} {s : Ls} (h : rnOk t n a s) : a + 2 ≤ rnA t n a ∧ rnA t n a ≤ n := by
  have h1 := (nv_r (t := t) (n := n) (a := a + 1) (by have := h.2.1; omega)).1
  unfold rnA
  rcases nf_n (t := t) (n := n) (a := a + 1) with e | e <;> omega
def runQ (m : Mem) (t : Int → Int) (n a p ov : Int) (f : Nat → Int → Bool) (l : Nat) (s : Ls) (q : Int × Mem) : Prop :=
  (∀ b, b ≠ 2 → q.2 2 b = m 2 b) ∧ (∀ a, a ≠ 2 → a ≠ p → a ≠ p + 1 → a ≠ p + 2 → a ≠ ov → q.2 a = m a) ∧ ((q.1 = 1 ∧ rnOk t n a s ∧ q.2 2 2 = rnA t n a ∧ LsC q.2 p (rnS t n a s) ∧ OvB q.2 ov (ovF f l (rnS t n a s).1)) ∨ q.1 = 0 ∧ ¬ rnOk t n a s)
theorem LsC.c {m m' : Mem} {p : Int} {s : Ls} (h : LsC m p s) (e : ∀ a, p ≤ a → a ≤ p + 2 → m' a = m a) : LsC m' p s := by
  unfold LsC PtC
  rw [e p (by omega) (by omega), e (p + 1) (by omega) (by omega), e (p + 2) (by omega) (by omega)]
  exact h
theorem OvB.c {m m' : Mem} {r : Int} {f : Nat → Int → Bool} (h : OvB m r f) (e : m' r = m r) : OvB m' r f := by
  unfold OvB
  rw [e]
  exact h
theorem run_go {g : Shp} {m m1 : Mem} {t : Int → Int} {n a p ov : Int} {f : Nat → Int → Bool} {l : Nat} {s : Ls} (dx dy c : Int) (hl : l < 3) (h4 : 4 < ov) (ho : ov < p) (hg : gl g ov = 400) (hw : WLs s) (hp : LsC m p s) (hov : OvB m ov (ovF f l s.1)) (ht : Tx m t n) (h0 : 0 ≤ a)
    (hc : t a = c) (hn : a < n) (hwc : wC c) (hx : wX c = dx) (hy : wY c = dy) (ha : m1 2 2 = a + 1) (hb : ∀ b, b ≠ 2 → m1 2 b = m 2 b) (hm : ∀ a, a ≠ 2 → m1 a = m a) :
    T (ebX8_readRun_68 g p ov (bShl 1 (l : Int)) dx dy m1) (runQ m t n a p ov f l s) := by
  have hd : (-1 ≤ dx ∧ dx ≤ 1) ∧ -1 ≤ dy ∧ dy ≤ 1 := by
    subst hx hy
    rcases hwc with e | e | e | e <;> rw [e] <;> decide
  have hA : wA c = if dx = 0 then 0 else 1 := by
    subst hx
    rcases hwc with e | e | e | e <;> rw [e] <;> decide
  unfold ebX8_readRun_68
  refine T_bd2 (uNum (ht.c (hb 3 (by decide)) (hm 3 (by decide))) ha (by omega)) ?_
  rintro v m2 ⟨e1, e2, e3, e4⟩
  dsimp only at e1 e2 e3 e4
  have k2 : ∀ b, b ≠ 2 → m2 2 b = m 2 b := fun b hb2 => (e3 b hb2).trans (hb b hb2)
  have km : ∀ a, a ≠ 2 → m2 a = m a := fun b hb2 => (e4 b hb2).trans (hm b hb2)
  rcases nr_v (t := t) (n := n) (a := a + 1) (lo := 1) (hi := 12) (by decide) with ⟨f1, f2⟩ | ⟨f1, f2⟩
  · rw [f1] at e1
    subst e1
    refine T_ie (by omega) (T_bd2 (tX5_go (wA c) hl ho hg hw f2 hd hA (hp.c (fun b _ _ => km b (by omega))) (hov.c (km ov (by omega)))) ?_)
    rintro v3 m3 ⟨g1, g2⟩
    dsimp only at g1 g2
    have l2 : ∀ b, b ≠ 2 → m3 2 b = m 2 b := fun b hb2 => by rw [g1 2 (by omega) (by omega) (by omega) (by omega)]; exact k2 b hb2
    have lm : ∀ a, a ≠ 2 → a ≠ p → a ≠ p + 1 → a ≠ p + 2 → a ≠ ov → m3 a = m a := fun b q1 q2 q3 q4 q5 => (g1 b q2 q3 q4 q5).trans (km b q1)
    unfold ebX8_readRun_102 ebX8_readRun_103
    rcases g2 with ⟨q1, q2, q3, q4⟩ | ⟨q1, q2⟩
    · subst q1
      refine T_ie (by decide) (T_ck (by decide) (T_some ⟨l2, lm, Or.inl ⟨rfl, ⟨⟨hn, by rw [hc]; exact hwc⟩, f2, ?_⟩, ?_, ?_, ?_⟩⟩))
      · rw [hc, hx, hy]; exact q2
      · dsimp only
        rw [g1 2 (by omega) (by omega) (by omega) (by omega), e2]; rfl
      · unfold rnS; rw [hc, hx, hy]; exact q3
      · unfold rnS; rw [hc, hx, hy]; exact q4
    · subst q1
      refine T_it rfl (T_ck (by decide) (T_some ⟨l2, lm, Or.inr ⟨rfl, fun h => q2 ?_⟩⟩))
      have := h.2.2
      rw [hc, hx, hy] at this
      exact this
  · rw [f1] at e1
    subst e1
    unfold ebX8_readRun_102 ebX8_readRun_103
    exact T_it rfl (T_ck (by decide) (T_some ⟨k2, fun b q1 _ _ _ _ => km b q1, Or.inr ⟨rfl, fun h => f2 h.2.1⟩⟩))
theorem tX8_readRun {g : Shp} {m : Mem} {t : Int → Int} {n a p ov : Int} {f : Nat → Int → Bool} {l : Nat} {s : Ls} (hl : l < 3) (h4 : 4 < ov) (ho : ov < p) (hg : gl g ov = 400) (hw : WLs s) (hp : LsC m p s) (hov : OvB m ov (ovF f l s.1)) (ht : Tx m t n) (ha : m 2 2 = a) (h0 : 0 ≤ a) :
    T (eX8_readRun g p ov (bShl 1 (l : Int)) m) (runQ m t n a p ov f l s) := by
  unfold eX8_readRun ebX8_readRun_0
  have keep : ∀ {m1 : Mem} {c : Int} {r : Int}, (r = sg t n a c ∧ m1 2 2 = a + sg t n a c ∧ (∀ b, b ≠ 2 → m1 2 b = m 2 b) ∧ ∀ a, a ≠ 2 → m1 a = m a) → r = 0 → m1 2 2 = a ∧ ¬ (a < n ∧ t a = c) := by
    rintro m1 c r ⟨e1, e2, _, _⟩ h
    rw [h] at e1
    exact ⟨by omega, fun q => by rw [sg_1.mpr q] at e1; exact absurd e1 (by decide)⟩
  have got : ∀ {m1 : Mem} {c : Int} {r : Int}, (r = sg t n a c ∧ m1 2 2 = a + sg t n a c ∧ (∀ b, b ≠ 2 → m1 2 b = m 2 b) ∧ ∀ a, a ≠ 2 → m1 a = m a) → ¬ r = 0 → m1 2 2 = a + 1 ∧ a < n ∧ t a = c := by
    rintro m1 c r ⟨e1, e2, _, _⟩ h
    have := (sg_r t n a c).resolve_left (fun q => h (e1.trans q))
    exact ⟨by omega, sg_1.mp this⟩
  refine T_bd2 (uTake ht ha h0) (fun r1 m1 (h1 : r1 = sg t n a 114 ∧ m1 2 2 = a + sg t n a 114 ∧ (∀ b, b ≠ 2 → m1 2 b = m 2 b) ∧ ∀ a, a ≠ 2 → m1 a = m a) => T_if (fun z1 => ?_) (fun z1 => ?_))
  · have k1 := keep h1 z1
    refine T_bd2 (uTake (ht.c (h1.2.2.1 3 (by decide)) (h1.2.2.2 3 (by decide))) k1.1 h0) (fun r2 m2 (h2' : r2 = sg t n a 108 ∧ m2 2 2 = a + sg t n a 108 ∧ (∀ b, b ≠ 2 → m2 2 b = m1 2 b) ∧ ∀ a, a ≠ 2 → m2 a = m1 a) => ?_)
    have h2 : r2 = sg t n a 108 ∧ m2 2 2 = a + sg t n a 108 ∧ (∀ b, b ≠ 2 → m2 2 b = m 2 b) ∧ ∀ a, a ≠ 2 → m2 a = m a := ⟨h2'.1, h2'.2.1, fun b q => (h2'.2.2.1 b q).trans (h1.2.2.1 b q), fun b q => (h2'.2.2.2 b q).trans (h1.2.2.2 b q)⟩
    refine T_if (fun z2 => ?_) (fun z2 => ?_)
    · have k2 := keep h2 z2
      refine T_bd2 (uTake (ht.c (h2.2.2.1 3 (by decide)) (h2.2.2.2 3 (by decide))) k2.1 h0) (fun r3 m3 (h3' : r3 = sg t n a 117 ∧ m3 2 2 = a + sg t n a 117 ∧ (∀ b, b ≠ 2 → m3 2 b = m2 2 b) ∧ ∀ a, a ≠ 2 → m3 a = m2 a) => ?_)
      have h3 : r3 = sg t n a 117 ∧ m3 2 2 = a + sg t n a 117 ∧ (∀ b, b ≠ 2 → m3 2 b = m 2 b) ∧ ∀ a, a ≠ 2 → m3 a = m a := ⟨h3'.1, h3'.2.1, fun b q => (h3'.2.2.1 b q).trans (h2.2.2.1 b q), fun b q => (h3'.2.2.2 b q).trans (h2.2.2.2 b q)⟩
      refine T_if (fun z3 => ?_) (fun z3 => ?_)
      · have k3 := keep h3 z3
        refine T_bd2 (uTake (ht.c (h3.2.2.1 3 (by decide)) (h3.2.2.2 3 (by decide))) k3.1 h0) (fun r4 m4 (h4' : r4 = sg t n a 100 ∧ m4 2 2 = a + sg t n a 100 ∧ (∀ b, b ≠ 2 → m4 2 b = m3 2 b) ∧ ∀ a, a ≠ 2 → m4 a = m3 a) => ?_)
        have h4 : r4 = sg t n a 100 ∧ m4 2 2 = a + sg t n a 100 ∧ (∀ b, b ≠ 2 → m4 2 b = m 2 b) ∧ ∀ a, a ≠ 2 → m4 a = m a := ⟨h4'.1, h4'.2.1, fun b q => (h4'.2.2.1 b q).trans (h3.2.2.1 b q), fun b q => (h4'.2.2.2 b q).trans (h3.2.2.2 b q)⟩
        refine T_if (fun z4 => ?_) (fun z4 => ?_)
        · have k4 := keep h4 z4
          refine T_some ⟨h4.2.2.1, fun b q _ _ _ _ => h4.2.2.2 b q, Or.inr ⟨rfl, ?_⟩⟩
          rintro ⟨⟨q1, q2 | q2 | q2 | q2⟩, _⟩
          · exact k1.2 ⟨q1, q2⟩
          · exact k2.2 ⟨q1, q2⟩
          · exact k3.2 ⟨q1, q2⟩
          · exact k4.2 ⟨q1, q2⟩
        · have k4 := got h4 z4
          exact run_go 0 1 100 hl (by assumption) ho hg hw hp hov ht h0 k4.2.2 k4.2.1 (Or.inr (Or.inr (Or.inr rfl))) (by decide) (by decide) k4.1 h4.2.2.1 h4.2.2.2
      · have k3 := got h3 z3
        exact run_go 0 (-1) 117 hl (by assumption) ho hg hw hp hov ht h0 k3.2.2 k3.2.1 (Or.inr (Or.inr (Or.inl rfl))) (by decide) (by decide) k3.1 h3.2.2.1 h3.2.2.2
    · have k2 := got h2 z2
      exact run_go (-1) 0 108 hl (by assumption) ho hg hw hp hov ht h0 k2.2.2 k2.2.1 (Or.inr (Or.inl rfl)) (by decide) (by decide) k2.1 h2.2.2.1 h2.2.2.2
  · have k1 := got h1 z1
    exact run_go 1 0 114 hl (by assumption) ho hg hw hp hov ht h0 k1.2.2 k1.2.1 (Or.inl rfl) (by decide) (by decide) k1.1 h1.2.2.1 h1.2.2.2
