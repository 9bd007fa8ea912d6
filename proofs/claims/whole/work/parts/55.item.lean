/-! ===== one item of a text: the program's side ===== -/
def okZ (t : Int → Int) (n a : Int) : Prop := (nmOk t n a 1 9 3 ∧ nv t n (ps t n a 0) < nv t n (ps t n a 1) ∧ nv t n (ps t n a 1) < nv t n (ps t n a 2)) ∧ sg t n (ps t n a 3 - 1) 59 = 1
def okJ (t : Int → Int) (n a : Int) : Prop := nmOk t n a 0 2 1 ∧ sg t n (ps t n a 1 - 1) 59 = 1
def okB (t : Int → Int) (n a : Int) : Prop := (nmOk t n a 0 6 4 ∧ nv t n (ps t n a 0) ≤ 2) ∧ sg t n (ps t n a 4 - 1) 59 = 1
def itOk (t : Int → Int) (n : Int) (l : Nat) (a : Int) : Prop := (t a = 122 ∧ okZ t n (a + 1)) ∨ (t a = 106 ∧ okJ t n (a + 1)) ∨ (t a = 98 ∧ okB t n (a + 1)) ∨ (t a = 108 ∧ l < 3 ∧ ∃ a' s, lnF t n (a + 1) = some (a', s))
/-- the sizes, the joint, the bags, the number of lines and the bits over cells of a plan; the paths -/
def Pln (m : Mem) (P : Int) (z b : Int → Int) (j l : Int) (f : Nat → Int → Bool) : Prop := (∀ k, 0 ≤ k → k < 3 → m (P + 1) k = z k) ∧ (∀ k, 0 ≤ k → k < 9 → m (P + 2) k = b k) ∧ m P 4 = j ∧ m P 5 = l ∧ OvB m (P + 4) f
theorem tX8_readLine {g : Shp} {m : Mem} {t : Int → Int} {n a P : Int} {f : Nat → Int → Bool} {l : Nat} (hl : l ≤ 3) (h5 : m P 5 = l) (hP : 4 < P) (hg : gl g (P + 4) = 400) (hov : OvB m (P + 4) f) (hf0 : ∀ c, f l c = false) (ht : Tx m t n) (ha : m 2 2 = a) (h0 : 0 ≤ a) :
    T (eX8_readLine g P m) (fun q => (∀ b, b ≠ 2 → q.2 2 b = m 2 b) ∧ (∀ b, b ≠ 5 → q.2 P b = m P b) ∧ (∀ a, a ≠ 2 → a ≠ 4 → a ≠ P → a ≠ P + 5 + 3 * l → a ≠ P + 5 + 3 * l + 1 → a ≠ P + 5 + 3 * l + 2 → a ≠ P + 4 → q.2 a = m a)
      ∧ ((q.1 = 1 ∧ l < 3 ∧ q.2 P 5 = l + 1 ∧ ∃ a' s, lnF t n a = some (a', s) ∧ WLs s ∧ 1 ≤ s.2.1 ∧ q.2 2 2 = a' ∧ (0 ≤ a' ∧ sg t n a' 59 = 1) ∧ LsC q.2 (P + 5 + 3 * l) s ∧ OvB q.2 (P + 4) (ovF f l s.1)) ∨ q.1 = 0 ∧ ¬ (l < 3 ∧ ∃ a' s, lnF t n a = some (a', s)))) := by
  unfold eX8_readLine ebX8_readLine_0 ebX8_readLine_28
  rw [h5]
  refine T_if (fun hc => T_some ⟨fun _ _ => rfl, fun _ _ => rfl, fun _ _ _ _ _ _ _ _ => rfl, Or.inr ⟨rfl, fun q => by have := q.1; omega⟩⟩) (fun hc => T_bd2 (tX8_readNumbers ht ha h0 (by decide) ⟨by decide, by decide⟩) ?_)
  rintro r1 m1 ⟨k1, k2, k3⟩
  dsimp only at k1 k2 k3
  have hps := ps_r (t := t) (n := n) (a := a) 2
  rcases k3 with ⟨e, hn, hat, hv⟩ | ⟨e, hn⟩
  · subst e
    have hat : m1 2 2 = ps t n a 2 - 1 := hat
    have hn : nmOk t n a 0 19 2 := hn
    refine T_ie (by decide) (T_bd2 (uTake (ht.c (k1 3 (by decide)) (k2 3 (by decide) (by decide))) hat (by omega)) ?_)
    rintro r2 m2 ⟨q1, q2, q3, q4⟩
    dsimp only at q1 q2 q3 q4
    have g2 : ∀ b, b ≠ 2 → m2 2 b = m 2 b := fun b hb => (q3 b hb).trans (k1 b hb)
    have gf : ∀ a, a ≠ 2 → a ≠ 4 → m2 a = m a := fun b b1 b2 => (q4 b b1).trans (k2 b b1 b2)
    refine T_if (fun z => T_some ⟨g2, fun b _ => by dsimp only; rw [gf P (by omega) (by omega)], fun b b1 b2 _ _ _ _ _ => gf b b1 b2, Or.inr ⟨rfl, ?_⟩⟩) (fun z => ?_)
    · rintro ⟨_, a', s, h⟩
      unfold lnF at h
      rw [if_neg (fun q => by have := q.2; omega)] at h
      exact absurd h (by simp)
    · have hsg := (sg_r t n (ps t n a 2 - 1) 44).resolve_left (by omega)
      have h25 : m2 P 5 = l := by rw [gf P (by omega) (by omega)]; exact h5
      rw [h25, show P + 3 + (2 + 3 * (l : Int)) = P + 5 + 3 * l by omega]
      rw [show m2 4 0 = nv t n (ps t n a 0) by rw [q4 4 (by decide)]; exact hv 0 (by decide) (by decide), show m2 4 1 = nv t n (ps t n a 1) by rw [q4 4 (by decide)]; exact hv 1 (by decide) (by decide)]
      have v0 := (hn 0 (by decide)).2
      have v1 := (hn 1 (by decide)).2
      have hF : lnF t n a = lnR t n 5 (ps t n a 2) (lsZ (nv t n (ps t n a 0)) (nv t n (ps t n a 1))) := by unfold lnF; rw [if_pos ⟨hn, hsg⟩]
      rw [hF]
      refine T_ck ⟨by omega, by omega⟩ (T_ck (by decide) (T_ck (by decide) (T_bd2 (Q := fun q => LsC q.2 (P + 5 + 3 * l) (lsZ (nv t n (ps t n a 0)) (nv t n (ps t n a 1))) ∧ ∀ a, a ≠ P + 5 + 3 * l → q.2 a = m2 a) ?_ ?_)))
      · unfold eX5_begin ebX5_begin_0
        refine T_vm (T_vm (T_vm (T_vm (T_some ⟨⟨⟨?_, ?_, ?_, fun k k0 k1 => absurd k1 (by show ¬ k < 0; omega)⟩, ?_, fun h => absurd h (by show ¬ (0 : Int) < 0; decide), fun k k0 k1 => absurd k1 (by show ¬ k < 0; omega)⟩, fun b hb => ?_⟩))))
        · dsimp only; rw [ms_y (by decide), ms_at]; rfl
        · dsimp only; rw [ms_at]; rfl
        · dsimp only; rw [ms_y (by decide), ms_y (by decide), ms_y (by decide), ms_at]; rfl
        · dsimp only; rw [ms_y (by decide), ms_y (by decide), ms_at]; rfl
        · dsimp only; rw [ms_f hb, ms_f hb, ms_f hb, ms_f hb]
      · rintro r3 m3 ⟨c1, c2⟩
        dsimp only at c1 c2
        have o3 : OvB m3 (P + 4) (ovF f l (lsZ (nv t n (ps t n a 0)) (nv t n (ps t n a 1))).1) := by
          have e : ovF f l (lsZ (nv t n (ps t n a 0)) (nv t n (ps t n a 1))).1 = f := by
            funext i c
            unfold ovF
            by_cases e : i = l
            · rw [if_pos e, e, hf0 c]; rfl
            · rw [if_neg e]
          rw [e]
          exact hov.c (by rw [c2 (P + 4) (by omega)]; exact gf (P + 4) (by omega) (by omega))
        have e32 : m3 2 = m2 2 := c2 2 (by omega)
        refine T_bdl (tX8_runs (by omega) (by rw [c2 P (by omega)]; exact h25) hP hg (WLs.z v0 v1) rfl c1 o3 (ht.c (by rw [e32]; exact g2 3 (by decide)) (by rw [c2 3 (by omega)]; exact gf 3 (by decide) (by decide))) (a := ps t n a 2) (by rw [e32]; omega) (by omega)) ?_
        rintro c ⟨k, m4⟩ ⟨u1, u2, u3⟩
        dsimp only at u1 u2 u3
        have w2 : ∀ b, b ≠ 2 → m4 2 b = m 2 b := fun b hb => by rw [u1 b hb, e32]; exact g2 b hb
        have wf : ∀ a, a ≠ 2 → a ≠ 4 → a ≠ P + 5 + 3 * l → a ≠ P + 5 + 3 * l + 1 → a ≠ P + 5 + 3 * l + 2 → a ≠ P + 4 → m4 a = m a := fun b b1 b2 b3 b4 b5 b6 => by rw [u2 b b1 b3 b4 b5 b6, c2 b b3]; exact gf b b1 b2
        have no : lnR t n 5 (ps t n a 2) (lsZ (nv t n (ps t n a 0)) (nv t n (ps t n a 1))) = none → T (some ((0 : Int), m4)) (fun q => (∀ b, b ≠ 2 → q.2 2 b = m 2 b) ∧ (∀ b, b ≠ 5 → q.2 P b = m P b) ∧ (∀ a, a ≠ 2 → a ≠ 4 → a ≠ P → a ≠ P + 5 + 3 * l → a ≠ P + 5 + 3 * l + 1 → a ≠ P + 5 + 3 * l + 2 → a ≠ P + 4 → q.2 a = m a)
            ∧ ((q.1 = 1 ∧ l < 3 ∧ q.2 P 5 = l + 1 ∧ ∃ a' s, lnR t n 5 (ps t n a 2) (lsZ (nv t n (ps t n a 0)) (nv t n (ps t n a 1))) = some (a', s) ∧ WLs s ∧ 1 ≤ s.2.1 ∧ q.2 2 2 = a' ∧ (0 ≤ a' ∧ sg t n a' 59 = 1) ∧ LsC q.2 (P + 5 + 3 * l) s ∧ OvB q.2 (P + 4) (ovF f l s.1)) ∨ q.1 = 0 ∧ ¬ (l < 3 ∧ ∃ a' s, lnR t n 5 (ps t n a 2) (lsZ (nv t n (ps t n a 0)) (nv t n (ps t n a 1))) = some (a', s)))) := by
          intro h
          refine T_some ⟨w2, fun b _ => by dsimp only; rw [wf P (by omega) (by omega) (by omega) (by omega) (by omega) (by omega)], fun b b1 b2 b3 b4 b5 b6 b7 => wf b b1 b2 b4 b5 b6 b7, Or.inr ⟨rfl, ?_⟩⟩
          rw [h]
          rintro ⟨_, a', s, h⟩
          exact absurd h (by simp)
        rcases u3 with ⟨e, a', s, y1, y2, y3, y4, y5, y6, y7⟩ | ⟨e | e, y⟩
        · subst e
          refine T_ie (by decide) (T_it rfl ?_)
          unfold ebX8_readLine_108
          dsimp only
          rw [show m4 P 5 = l by rw [wf P (by omega) (by omega) (by omega) (by omega) (by omega) (by omega)]; exact h5, w32_id (by omega) (by omega)]
          refine T_vm (T_some ⟨fun b hb => ?_, fun b hb => ?_, fun b b1 b2 b3 b4 b5 b6 b7 => ?_, Or.inl ⟨rfl, by omega, ?_, a', s, y1, y2, y3, ?_, y5, ?_, ?_⟩⟩)
          · dsimp only; rw [ms_x (by omega)]; exact w2 b hb
          · dsimp only; rw [ms_y hb, wf P (by omega) (by omega) (by omega) (by omega) (by omega) (by omega)]
          · dsimp only; rw [ms_f b3]; exact wf b b1 b2 b4 b5 b6 b7
          · dsimp only; rw [ms_at]
          · dsimp only; rw [ms_x (by omega)]; exact y4
          · exact y6.c (fun b b1 b2 => ms_f (by omega))
          · exact y7.c (ms_f (by omega))
        · subst e
          exact T_it rfl (no y)
        · subst e
          exact T_ie (by decide) (T_ie (by decide) (no y))
  · subst e
    refine T_it rfl (T_some ⟨k1, fun b _ => by dsimp only; rw [k2 P (by omega) (by omega)], fun b b1 b2 _ _ _ _ _ => k2 b b1 b2, Or.inr ⟨rfl, ?_⟩⟩)
    rintro ⟨_, a', s, h⟩
    unfold lnF at h
    rw [if_neg (fun q => hn q.1)] at h
    exact absurd h (by simp)
theorem tX8_readSizes {g : Shp} {m : Mem} {t : Int → Int} {n a P : Int} (hP : 4 < P) (ht : Tx m t n) (ha : m 2 2 = a) (h0 : 0 ≤ a) :
    T (eX8_readSizes g P m) (fun q => (∀ b, b ≠ 2 → q.2 2 b = m 2 b) ∧ (∀ a, a ≠ 2 → a ≠ 4 → a ≠ P + 1 → q.2 a = m a)
      ∧ ((q.1 = 1 ∧ (nmOk t n a 1 9 3 ∧ nv t n (ps t n a 0) < nv t n (ps t n a 1) ∧ nv t n (ps t n a 1) < nv t n (ps t n a 2)) ∧ q.2 2 2 = ps t n a 3 - 1 ∧ ∀ k, 0 ≤ k → k < 3 → q.2 (P + 1) k = nv t n (ps t n a k.toNat)) ∨ q.1 = 0 ∧ ¬ (nmOk t n a 1 9 3 ∧ nv t n (ps t n a 0) < nv t n (ps t n a 1) ∧ nv t n (ps t n a 1) < nv t n (ps t n a 2)))) := by
  unfold eX8_readSizes ebX8_readSizes_0 ebX8_readSizes_43
  refine T_bd2 (tX8_readNumbers ht ha h0 (by decide) ⟨by decide, by decide⟩) ?_
  rintro r1 m1 ⟨k1, k2, k3⟩
  dsimp only at k1 k2 k3
  rcases k3 with ⟨e, hn, hat, hv⟩ | ⟨e, hn⟩
  · subst e
    have hat : m1 2 2 = ps t n a 3 - 1 := hat
    have hn : nmOk t n a 1 9 3 := hn
    have v0 : m1 4 0 = nv t n (ps t n a 0) := hv 0 (by decide) (by decide)
    have v1 : m1 4 1 = nv t n (ps t n a 1) := hv 1 (by decide) (by decide)
    have v2 : m1 4 2 = nv t n (ps t n a 2) := hv 2 (by decide) (by decide)
    rw [v0, v1, v2]
    refine T_ie (by decide) (T_ck (by decide) (T_ck (by decide) (T_if (fun hc => T_some ⟨k1, fun b b1 b2 _ => k2 b b1 b2, Or.inr ⟨rfl, fun q => by have := q.2.1; omega⟩⟩) (fun hc => T_ck (by decide) (T_ck (by decide) (T_if (fun hd => T_ck (by decide) (T_vm (T_some ⟨fun b hb => ?_, fun b b1 b2 b3 => ?_, Or.inl ⟨rfl, ⟨hn, by omega, hd⟩, ?_, fun k q1 q2 => ?_⟩⟩))) (fun hd => T_some ⟨k1, fun b b1 b2 _ => k2 b b1 b2, Or.inr ⟨rfl, fun q => hd q.2.2⟩⟩)))))))
    · dsimp only; rw [mcp_x (by omega)]; exact k1 b hb
    · dsimp only; rw [mcp_f b3]; exact k2 b b1 b2
    · dsimp only; rw [mcp_x (by omega)]; exact hat
    · dsimp only; rw [mcp_in (by omega) (by omega), show (0 : Int) + (k - 0) = k by omega]; exact hv k q1 q2
  · subst e
    exact T_it rfl (T_some ⟨k1, fun b b1 b2 _ => k2 b b1 b2, Or.inr ⟨rfl, fun q => hn q.1⟩⟩)
theorem tX8_readJoint {g : Shp} {m : Mem} {t : Int → Int} {n a P : Int} (hP : 4 < P) (ht : Tx m t n) (ha : m 2 2 = a) (h0 : 0 ≤ a) :
    T (eX8_readJoint g P m) (fun q => (∀ b, b ≠ 2 → q.2 2 b = m 2 b) ∧ (∀ b, b ≠ 4 → q.2 P b = m P b) ∧ (∀ a, a ≠ 2 → a ≠ 4 → a ≠ P → q.2 a = m a)
      ∧ ((q.1 = 1 ∧ nmOk t n a 0 2 1 ∧ q.2 2 2 = ps t n a 1 - 1 ∧ q.2 P 4 = nv t n (ps t n a 0)) ∨ q.1 = 0 ∧ ¬ nmOk t n a 0 2 1)) := by
  unfold eX8_readJoint ebX8_readJoint_0
  refine T_bd2 (tX8_readNumbers ht ha h0 (by decide) ⟨by decide, by decide⟩) ?_
  rintro r1 m1 ⟨k1, k2, k3⟩
  dsimp only at k1 k2 k3
  rcases k3 with ⟨e, hn, hat, hv⟩ | ⟨e, hn⟩
  · subst e
    refine T_ie (by decide) (T_ck (by decide) (T_vm (T_some ⟨fun b hb => ?_, fun b hb => ?_, fun b b1 b2 b3 => ?_, Or.inl ⟨rfl, hn, ?_, ?_⟩⟩)))
    · dsimp only; rw [ms_x (by omega)]; exact k1 b hb
    · dsimp only; rw [ms_y hb, k2 P (by omega) (by omega)]
    · dsimp only; rw [ms_f b3]; exact k2 b b1 b2
    · dsimp only; rw [ms_x (by omega)]; exact hat
    · dsimp only; rw [ms_at]; exact hv 0 (by decide) (by decide)
  · subst e
    exact T_it rfl (T_some ⟨k1, fun b _ => by dsimp only; rw [k2 P (by omega) (by omega)], fun b b1 b2 _ => k2 b b1 b2, Or.inr ⟨rfl, hn⟩⟩)
theorem tX8_readBag {g : Shp} {m : Mem} {t : Int → Int} {n a P : Int} (hP : 4 < P) (ht : Tx m t n) (ha : m 2 2 = a) (h0 : 0 ≤ a) :
    T (eX8_readBag g P m) (fun q => (∀ b, b ≠ 2 → q.2 2 b = m 2 b) ∧ (∀ a, a ≠ 2 → a ≠ 4 → a ≠ P + 2 → q.2 a = m a)
      ∧ ((q.1 = 1 ∧ (nmOk t n a 0 6 4 ∧ nv t n (ps t n a 0) ≤ 2) ∧ q.2 2 2 = ps t n a 4 - 1 ∧ ∀ k, 0 ≤ k → k < 9 → q.2 (P + 2) k = if 3 * nv t n (ps t n a 0) ≤ k ∧ k < 3 * nv t n (ps t n a 0) + 3 then nv t n (ps t n a (k - 3 * nv t n (ps t n a 0) + 1).toNat) else m (P + 2) k) ∨ q.1 = 0 ∧ ¬ (nmOk t n a 0 6 4 ∧ nv t n (ps t n a 0) ≤ 2))) := by
  unfold eX8_readBag ebX8_readBag_0 ebX8_readBag_23
  refine T_bd2 (tX8_readNumbers ht ha h0 (by decide) ⟨by decide, by decide⟩) ?_
  rintro r1 m1 ⟨k1, k2, k3⟩
  dsimp only at k1 k2 k3
  rcases k3 with ⟨e, hn, hat, hv⟩ | ⟨e, hn⟩
  · subst e
    have hat : m1 2 2 = ps t n a 4 - 1 := hat
    have hn : nmOk t n a 0 6 4 := hn
    have v0 : m1 4 0 = nv t n (ps t n a 0) := hv 0 (by decide) (by decide)
    have w0 := (hn 0 (by decide)).2
    refine T_ie (by decide) (T_ck (by decide) (T_bd2 tX10_isColour ?_))
    intro r2 m2 e
    cases e
    rw [v0]
    by_cases h2 : nv t n (ps t n a 0) ≤ 2
    · rw [if_pos (show 0 ≤ nv t n (ps t n a 0) ∧ nv t n (ps t n a 0) ≤ 2 from ⟨w0.1, h2⟩)]
      refine T_ie (by decide) (T_ck (by decide) ?_)
      rw [w32_id (by omega) (by omega)]
      refine T_ck ⟨by decide, by omega, by decide, by decide, by omega⟩ (T_vm (T_some ⟨fun b hb => ?_, fun b b1 b2 b3 => ?_, Or.inl ⟨rfl, ⟨hn, h2⟩, ?_, fun k q1 q2 => ?_⟩⟩))
      · dsimp only; rw [mcp_x (by omega)]; exact k1 b hb
      · dsimp only; rw [mcp_f b3]; exact k2 b b1 b2
      · dsimp only; rw [mcp_x (by omega)]; exact hat
      · dsimp only
        by_cases q : 3 * nv t n (ps t n a 0) ≤ k ∧ k < 3 * nv t n (ps t n a 0) + 3
        · rw [if_pos q, mcp_in (by omega) (by omega), show (1 : Int) + (k - nv t n (ps t n a 0) * 3) = k - 3 * nv t n (ps t n a 0) + 1 by omega]
          exact hv _ (by omega) (by omega)
        · rw [if_neg q, mcp_out (by omega), k2 (P + 2) (by omega) (by omega)]
    · rw [if_neg (show ¬ (0 ≤ nv t n (ps t n a 0) ∧ nv t n (ps t n a 0) ≤ 2) from fun q => h2 q.2)]
      exact T_it rfl (T_some ⟨k1, fun b b1 b2 _ => k2 b b1 b2, Or.inr ⟨rfl, fun q => h2 q.2⟩⟩)
  · subst e
    exact T_it rfl (T_some ⟨k1, fun b b1 b2 _ => k2 b b1 b2, Or.inr ⟨rfl, fun q => hn q.1⟩⟩)
