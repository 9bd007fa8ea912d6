/-! ===== numbers with a comma between two of them ===== -/
def ps (t : Int → Int) (n a : Int) : Nat → Int
  | 0 => a
  | k + 1 => ps t n a k + nf t n (ps t n a k) + 1
def nmOk (t : Int → Int) (n a lo hi : Int) (k : Nat) : Prop := ∀ j : Nat, j < k → (0 < j → sg t n (ps t n a j - 1) 44 = 1) ∧ lo ≤ nv t n (ps t n a j) ∧ nv t n (ps t n a j) ≤ hi
theorem ps_s (t : Int → Int) (n a : Int) (k : Nat) : ps t n a (k + 1) = ps t n a k + nf t n (ps t n a k) + 1 := rfl
theorem ps_r {t : Int → Int} {n a : Int} : ∀ k : Nat, a + k ≤ ps t n a k ∧ ps t n a k ≤ a + 3 * k
  | 0 => ⟨by simp [ps], by simp [ps]⟩
  | k + 1 => by
    have h := ps_r (t := t) (n := n) (a := a) k
    have h2 := nf_r t n (ps t n a k)
    rw [ps_s]
    omega
def nbQ (m : Mem) (t : Int → Int) (n a lo hi many : Int) (c : Prop) (c' : Prop) (m' : Mem) : Prop :=
  (∀ b, b ≠ 2 → m' 2 b = m 2 b) ∧ (∀ a, a ≠ 2 → a ≠ 4 → m' a = m a) ∧ ((c ∧ nmOk t n a lo hi many.toNat ∧ m' 2 2 = ps t n a many.toNat - 1 ∧ ∀ j, 0 ≤ j → j < many → m' 4 j = nv t n (ps t n a j.toNat)) ∨ c' ∧ ¬ nmOk t n a lo hi many.toNat)
theorem tX8_readNumbers {g : Shp} {m : Mem} {t : Int → Int} {n a lo hi many : Int} (ht : Tx m t n) (ha : m 2 2 = a) (h0 : 0 ≤ a) (hlo : 0 ≤ lo) (hm : 1 ≤ many ∧ many ≤ 4) :
    T (eX8_readNumbers g many lo hi m) (fun q => nbQ m t n a lo hi many (q.1 = 1) (q.1 = 0) q.2) := by
  unfold eX8_readNumbers ebX8_readNumbers_0
  refine T_bdl (Q := fun q => nbQ m t n a lo hi many (q.1 = 3) (q.1 = 1 ∨ q.1 = 2) q.2.2)
    (iter1 (fun k m' => (0 ≤ k ∧ k ≤ many) ∧ nmOk t n a lo hi k.toNat ∧ m' 2 2 = (if k = 0 then a else ps t n a k.toNat - 1) ∧ (∀ j, 0 ≤ j → j < k → m' 4 j = nv t n (ps t n a j.toNat)) ∧ (∀ b, b ≠ 2 → m' 2 b = m 2 b) ∧ ∀ a, a ≠ 2 → a ≠ 4 → m' a = m a) (fun k => (many - k).toNat)
      ⟨by omega, fun j hj => absurd hj (by simp), by rw [if_pos rfl]; exact ha, fun j a b => by omega, fun _ _ => rfl, fun _ _ _ => rfl⟩ (by omega) ?_) ?_
  · rintro k m' ⟨hk, hok, hat, hv, h2, hf⟩
    have hps := ps_r (t := t) (n := n) (a := a) k.toNat
    have body : ∀ m1 : Mem, (0 < k → sg t n (ps t n a k.toNat - 1) 44 = 1) → k < many → m1 2 2 = ps t n a k.toNat → (∀ b, b ≠ 2 → m1 2 b = m' 2 b) → (∀ a, a ≠ 2 → m1 a = m' a) →
        T (ebX8_readNumbers_35 g many lo hi k m1) (G (fun q => (fun (k : Int) (m' : Mem) => (0 ≤ k ∧ k ≤ many) ∧ nmOk t n a lo hi k.toNat ∧ m' 2 2 = (if k = 0 then a else ps t n a k.toNat - 1) ∧ (∀ j, 0 ≤ j → j < k → m' 4 j = nv t n (ps t n a j.toNat)) ∧ (∀ b, b ≠ 2 → m' 2 b = m 2 b) ∧ ∀ a, a ≠ 2 → a ≠ 4 → m' a = m a) q.1 q.2) (fun q => (fun k => (many - k).toNat) q.1) ((fun k => (many - k).toNat) k) (fun q => nbQ m t n a lo hi many (q.1 = 3) (q.1 = 1 ∨ q.1 = 2) q.2.2)) := by
      intro m1 hs hkm e2 e3 e4
      unfold ebX8_readNumbers_35
      refine T_bd2 (uNum (ht.c ((e3 3 (by decide)).trans (h2 3 (by decide))) ((e4 3 (by decide)).trans (hf 3 (by decide) (by decide)))) e2 (by omega)) ?_
      rintro v m2 ⟨q1, q2, q3, q4⟩
      dsimp only at q1 q2 q3 q4
      refine T_ck ⟨by omega, by omega⟩ (T_vm' ?_)
      intro m3 e5
      have g2 : ∀ b, b ≠ 2 → m3 2 b = m 2 b := fun b hb => by rw [e5, ms_x (by decide), q3 b hb, e3 b hb]; exact h2 b hb
      have gf : ∀ a, a ≠ 2 → a ≠ 4 → m3 a = m a := fun b b1 b2 => by rw [e5, ms_f b2, q4 b b1, e4 b b1]; exact hf b b1 b2
      rw [show m3 4 k = v by rw [e5, ms_at]]
      refine T_ck ⟨by omega, by omega⟩ ?_
      rcases nr_v (t := t) (n := n) (a := ps t n a k.toNat) (lo := lo) (hi := hi) hlo with ⟨f1, f2⟩ | ⟨f1, f2⟩
      · rw [f1] at q1
        refine T_ie (by omega) ?_
        rw [w32_id (by omega) (by omega)]
        have es : (k + 1).toNat = k.toNat + 1 := by omega
        refine T_vv (T_go ⟨⟨by simp only; omega, by simp only; omega⟩, ?_, ?_, fun j j0 j1 => ?_, g2, gf⟩ (by simp only; omega))
        · simp only [es]
          intro j hj
          by_cases e : j = k.toNat
          · rw [e]; exact ⟨fun _ => hs (by omega), f2⟩
          · exact hok j (by omega)
        · simp only [es]
          rw [if_neg (by omega), e5, ms_x (by decide), q2, ps_s]
          omega
        · simp only at j1
          simp only
          rw [e5]
          by_cases e : j = k
          · rw [e, ms_at, q1]
          · rw [ms_y e, q4 4 (by decide), e4 4 (by decide)]; exact hv j j0 (by omega)
      · rw [f1] at q1
        exact T_it q1 (T_out (by decide) ⟨g2, gf, Or.inr ⟨Or.inr rfl, fun h => f2 (h k.toNat (by omega)).2⟩⟩)
    unfold eBX8_readNumbers_3 ebX8_readNumbers_3
    simp only
    refine T_if (fun hc => T_out (by decide) ?_) (fun hc => T_ie (by omega) (T_if (fun hz => body m' (by omega) (by omega) ?_ (fun _ _ => rfl) (fun _ _ => rfl)) (fun hz => ?_)))
    · have e : k = many := by omega
      subst e
      rw [if_neg (by omega)] at hat
      exact ⟨h2, hf, Or.inl ⟨rfl, hok, hat, hv⟩⟩
    · have e : k = 0 := by omega
      subst e
      rw [if_pos rfl] at hat
      exact hat
    · rw [if_neg (by omega)] at hat
      refine T_bd2 (uTake (ht.c (h2 3 (by decide)) (hf 3 (by decide) (by decide))) hat (by omega)) ?_
      rintro r m1 ⟨q1, q2, q3, q4⟩
      dsimp only at q1 q2 q3 q4
      refine T_if (fun z => T_out (by decide) ⟨fun b hb => (q3 b hb).trans (h2 b hb), fun b b1 b2 => (q4 b b1).trans (hf b b1 b2), Or.inr ⟨Or.inl rfl, fun h => ?_⟩⟩) (fun z => body m1 (fun _ => ?_) (by omega) ?_ q3 q4)
      · have := (h k.toNat (by omega)).1 (by omega)
        omega
      · have := sg_r t n (ps t n a k.toNat - 1) 44
        omega
      · have := sg_r t n (ps t n a k.toNat - 1) 44
        omega
  · rintro c ⟨k, m'⟩ ⟨h1, h2, h3⟩
    dsimp only at h1 h2 h3 ⊢
    rcases h3 with ⟨e, h4⟩ | ⟨e | e, h4⟩
    · subst e
      exact T_ie (by decide) (T_ie (by decide) (T_some ⟨h1, h2, Or.inl ⟨rfl, h4⟩⟩))
    · subst e
      exact T_it rfl (T_some ⟨h1, h2, Or.inr ⟨rfl, h4⟩⟩)
    · subst e
      exact T_ie (by decide) (T_it rfl (T_some ⟨h1, h2, Or.inr ⟨rfl, h4⟩⟩))
/-! ===== the runs of a line ===== -/
noncomputable def lnR (t : Int → Int) (n : Int) : Nat → Int → Ls → Option (Int × Ls)
  | 0, _, _ => none
  | k + 1, a, s => @ite _ (rnOk t n a s) (Classical.propDecidable _) (if sg t n (rnA t n a) 59 = 1 then some (rnA t n a, rnS t n a s) else lnR t n k (rnA t n a) (rnS t n a s)) none
theorem lnR_no {t : Int → Int} {n a : Int} {s : Ls} (h : ¬ rnOk t n a s) (k : Nat) : lnR t n k a s = none := by
  cases k with
  | zero => rfl
  | succ k => unfold lnR; rw [if_neg h]
theorem lnR_end {t : Int → Int} {n a : Int} {s : Ls} {k : Nat} (h : rnOk t n a s) (h2 : sg t n (rnA t n a) 59 = 1) : lnR t n (k + 1) a s = some (rnA t n a, rnS t n a s) := by
  unfold lnR; rw [if_pos h, if_pos h2]
theorem lnR_go {t : Int → Int} {n a : Int} {s : Ls} {k : Nat} (h : rnOk t n a s) (h2 : ¬ sg t n (rnA t n a) 59 = 1) : lnR t n (k + 1) a s = lnR t n k (rnA t n a) (rnS t n a s) := by
  conv => lhs; unfold lnR
  rw [if_pos h, if_neg h2]
def lsZ (x y : Int) : Ls := ((x, y, 0, fun _ => 0), 0, 0, fun _ => 0)
noncomputable def lnF (t : Int → Int) (n a : Int) : Option (Int × Ls) :=
  @ite _ (nmOk t n a 0 19 2 ∧ sg t n (ps t n a 2 - 1) 44 = 1) (Classical.propDecidable _) (lnR t n 5 (ps t n a 2) (lsZ (nv t n (ps t n a 0)) (nv t n (ps t n a 1)))) none
theorem WLs.z {x y : Int} (hx : 0 ≤ x ∧ x ≤ 19) (hy : 0 ≤ y ∧ y ≤ 19) : WLs (lsZ x y) := ⟨⟨hx, hy, Int.le_refl 0⟩, ⟨Int.le_refl 0, by show (0 : Int) ≤ 5; decide⟩, fun j (a : 0 ≤ j) (b : j < 0) => by omega, rfl, fun k (a : 0 ≤ k) (b : k < 0) => by omega, fun k j (a : 0 ≤ k) b (c : j < 0) => by omega⟩
def lnQ (m : Mem) (P : Int) (t : Int → Int) (n : Int) (f : Nat → Int → Bool) (l : Nat) (R : Option (Int × Ls)) (c c' : Prop) (m' : Mem) : Prop :=
  (∀ b, b ≠ 2 → m' 2 b = m 2 b) ∧ (∀ a, a ≠ 2 → a ≠ P + 5 + 3 * l → a ≠ P + 5 + 3 * l + 1 → a ≠ P + 5 + 3 * l + 2 → a ≠ P + 4 → m' a = m a)
  ∧ ((c ∧ ∃ a s, R = some (a, s) ∧ WLs s ∧ 1 ≤ s.2.1 ∧ m' 2 2 = a ∧ (0 ≤ a ∧ sg t n a 59 = 1) ∧ LsC m' (P + 5 + 3 * l) s ∧ OvB m' (P + 4) (ovF f l s.1)) ∨ c' ∧ R = none)
theorem tX8_runs {g : Shp} {m : Mem} {t : Int → Int} {n a P : Int} {f : Nat → Int → Bool} {l : Nat} {s : Ls} (hl : l < 3) (h5 : m P 5 = l) (hP : 4 < P) (hg : gl g (P + 4) = 400) (hw : WLs s) (hs : s.2.1 = 0) (hp : LsC m (P + 5 + 3 * l) s) (hov : OvB m (P + 4) (ovF f l s.1)) (ht : Tx m t n) (ha : m 2 2 = a) (h0 : 0 ≤ a) :
    T (iter (eBX8_readLine_58 g P (P + 5 + 3 * l)) 100000 (0, m)) (fun q => lnQ m P t n f l (lnR t n 5 a s) (q.1 = 2) (q.1 = 1 ∨ q.1 = 3) q.2.2) := by
  refine iter1 (fun k m' => (0 ≤ k ∧ k ≤ 5) ∧ ∃ a' s', lnR t n (5 - k).toNat a' s' = lnR t n 5 a s ∧ s'.2.1 = k ∧ WLs s' ∧ m' 2 2 = a' ∧ 0 ≤ a' ∧ LsC m' (P + 5 + 3 * l) s' ∧ OvB m' (P + 4) (ovF f l s'.1) ∧ (∀ b, b ≠ 2 → m' 2 b = m 2 b) ∧ (∀ a, a ≠ 2 → a ≠ P + 5 + 3 * l → a ≠ P + 5 + 3 * l + 1 → a ≠ P + 5 + 3 * l + 2 → a ≠ P + 4 → m' a = m a)) (fun k => (5 - k).toNat)
    ⟨by decide, a, s, rfl, hs, hw, ha, h0, hp, hov, fun _ _ => rfl, fun _ _ _ _ _ _ => rfl⟩ (by decide) ?_
  rintro k m' ⟨hk, a', s', hR, hsk, hw', ha', h0', hp', hov', hf2, hf⟩
  unfold eBX8_readLine_58 ebX8_readLine_58
  simp only
  refine T_if (fun hc => T_out (by decide) ⟨hf2, hf, Or.inr ⟨Or.inr rfl, ?_⟩⟩) (fun hc => ?_)
  · rw [← hR, show (5 - k).toNat = 0 by omega]; rfl
  · rw [hf P (by omega) (by omega) (by omega) (by omega) (by omega), h5]
    have tx' : Tx m' t n := ht.c (hf2 3 (by decide)) (hf 3 (by omega) (by omega) (by omega) (by omega) (by omega))
    refine T_bd2 (tX8_readRun hl (by omega) (by omega) hg hw' hp' hov' tx' ha' h0') ?_
    rintro r m2 ⟨q2, qf, q⟩
    dsimp only at q2 qf q
    have g2 : ∀ b, b ≠ 2 → m2 2 b = m 2 b := fun b hb => (q2 b hb).trans (hf2 b hb)
    have gf : ∀ a, a ≠ 2 → a ≠ P + 5 + 3 * l → a ≠ P + 5 + 3 * l + 1 → a ≠ P + 5 + 3 * l + 2 → a ≠ P + 4 → m2 a = m a := fun b b1 b2 b3 b4 b5 => (qf b b1 b2 b3 b4 b5).trans (hf b b1 b2 b3 b4 b5)
    rcases q with ⟨e, o1, o2, o3, o4⟩ | ⟨e, o1⟩
    · subst e
      have tx2 : Tx m2 t n := ht.c (g2 3 (by decide)) (gf 3 (by omega) (by omega) (by omega) (by omega) (by omega))
      have hra := o1.a
      have ek : (5 - k).toNat = (5 - (k + 1)).toNat + 1 := by omega
      have er : (rnS t n a' s').2.1 = k + 1 := by show s'.2.1 + 1 = _; omega
      have go : ¬ sg t n (rnA t n a') 59 = 1 → T (ebX8_readLine_120 g P (P + 5 + 3 * l) k m2) (G (fun q => (fun (k : Int) (m' : Mem) => (0 ≤ k ∧ k ≤ 5) ∧ ∃ a' s', lnR t n (5 - k).toNat a' s' = lnR t n 5 a s ∧ s'.2.1 = k ∧ WLs s' ∧ m' 2 2 = a' ∧ 0 ≤ a' ∧ LsC m' (P + 5 + 3 * l) s' ∧ OvB m' (P + 4) (ovF f l s'.1) ∧ (∀ b, b ≠ 2 → m' 2 b = m 2 b) ∧ (∀ a, a ≠ 2 → a ≠ P + 5 + 3 * l → a ≠ P + 5 + 3 * l + 1 → a ≠ P + 5 + 3 * l + 2 → a ≠ P + 4 → m' a = m a)) q.1 q.2) (fun q => (fun k => (5 - k).toNat) q.1) ((fun k => (5 - k).toNat) k) (fun q => lnQ m P t n f l (lnR t n 5 a s) (q.1 = 2) (q.1 = 1 ∨ q.1 = 3) q.2.2)) := by
        intro hns
        unfold ebX8_readLine_120
        rw [w32_id (by omega) (by omega)]
        refine T_vv (T_go ⟨⟨by simp only; omega, by simp only; omega⟩, rnA t n a', rnS t n a' s', ?_, er, o1.w hw', o2, by omega, o3, o4, g2, gf⟩ (by simp only; omega))
        simp only
        rw [← hR, ek, lnR_go o1 hns]
      refine T_ie (by decide) ?_
      rw [o2, tx2.1]
      refine T_if (fun hz => go (fun q => by have := (sg_1.mp q).1; omega)) (fun hz => T_ck ⟨by omega, by have := tx2.2.1; omega⟩ ?_)
      rw [tx2.2.2 _ (by omega) (by omega)]
      refine T_if (fun hy => T_out (by decide) ⟨g2, gf, Or.inl ⟨rfl, rnA t n a', rnS t n a' s', ?_, o1.w hw', by omega, o2, ⟨by omega, sg_1.mpr ⟨by omega, hy⟩⟩, o3, o4⟩⟩) (fun hy => go (fun q => hy (sg_1.mp q).2))
      rw [← hR, ek, lnR_end o1 (sg_1.mpr ⟨by omega, hy⟩)]
    · subst e
      refine T_it rfl (T_out (by decide) ⟨g2, gf, Or.inr ⟨Or.inl rfl, ?_⟩⟩)
      rw [← hR, lnR_no o1]
