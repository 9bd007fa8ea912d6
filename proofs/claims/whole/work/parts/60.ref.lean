/-- what a line that is read leaves as it is -/
def RLn (l : Nat) (m m' : Mem) : Prop := (∀ b, b ≠ 6 → b ≠ 10 → b ≠ 15 → b ≠ 16 → b ≠ 17 → b ≠ 18 → m' 241 b = m 241 b) ∧ (∀ x, x ≠ 241 → x ≠ 248 → x ≠ 249 → x ≠ 250 → x ≠ 251 → m' x = m x) ∧ (∀ i : Int, i ≠ l → m' 248 i = m 248 i ∧ m' 250 i = m 250 i) ∧ (∀ j : Int, (j < 5 * l ∨ 5 * l + 5 ≤ j) → m' 249 j = m 249 j) ∧ ∀ j : Int, (j < 60 * l ∨ 60 * l + 60 ≤ j) → m' 251 j = m 251 j
theorem RLn.rf (l : Nat) (m : Mem) : RLn l m m := ⟨fun _ _ _ _ _ _ _ => rfl, fun _ _ _ _ _ _ => rfl, fun _ _ => ⟨rfl, rfl⟩, fun _ _ => rfl, fun _ _ => rfl⟩
theorem RLn.tr {l : Nat} {m m' m'' : Mem} (h : RLn l m m') (h2 : RLn l m' m'') : RLn l m m'' :=
  ⟨fun b a1 a2 a3 a4 a5 a6 => (h2.1 b a1 a2 a3 a4 a5 a6).trans (h.1 b a1 a2 a3 a4 a5 a6), fun x a1 a2 a3 a4 a5 => (h2.2.1 x a1 a2 a3 a4 a5).trans (h.2.1 x a1 a2 a3 a4 a5), fun i hi => ⟨(h2.2.2.1 i hi).1.trans (h.2.2.1 i hi).1, (h2.2.2.1 i hi).2.trans (h.2.2.1 i hi).2⟩, fun j hj => (h2.2.2.2.1 j hj).trans (h.2.2.2.1 j hj), fun j hj => (h2.2.2.2.2 j hj).trans (h.2.2.2.2 j hj)⟩
theorem Rat.ln {l : Nat} {m m' : Mem} (h : Rat m m') : RLn l m m' := ⟨fun b a _ _ _ _ _ => h.1 b a, fun x a _ _ _ _ => h.2 x a, fun i _ => ⟨by rw [h.2 248 (by decide)], by rw [h.2 250 (by decide)]⟩, fun j _ => by rw [h.2 249 (by decide)], fun j _ => by rw [h.2 251 (by decide)]⟩
theorem RFr.ln {l : Nat} {m m' : Mem} (h : RFr l m m') : RLn l m m' := ⟨fun b _ _ a1 a2 a3 a4 => h.1 b a1 a2 a3 a4, h.2⟩
theorem LsR.d {m m' : Mem} {l : Nat} {s : Ls} (h : LsR m l s) (h2 : (∀ b, b ≠ 6 → b ≠ 10 → m' 241 b = m 241 b) ∧ ∀ x, x ≠ 241 → m' x = m x) : LsR m' l s := by
  unfold LsR PtR
  rw [h2.1 15 (by decide) (by decide), h2.1 16 (by decide) (by decide), h2.1 17 (by decide) (by decide), h2.1 18 (by decide) (by decide), h2.2 248 (by decide), h2.2 249 (by decide), h2.2 250 (by decide), h2.2 251 (by decide)]
  exact h
theorem LsR.c {m m' : Mem} {l : Nat} {s : Ls} (h : LsR m l s) (h2 : Rat m m') : LsR m' l s := h.d ⟨fun b hb _ => h2.1 b hb, h2.2⟩
theorem tX11_runs {g : Shp} {m : Mem} {t : Int → Int} {n a : Int} {l : Nat} {s : Ls} (hl : l < 3) (h10 : m 241 10 = l) (hw : WLs s) (hs : s.2.1 = 0) (hp : LsR m l s) (h : TxR m t n a) (ha : a ≤ 900) :
    T (iter (eBX11_readLine_73 g) 100000 (0, m)) (fun q => RLn l m q.2.2 ∧ q.2.2 241 10 = l ∧ ((q.1 = 2 ∧ ∃ a' s', lnR t n 5 a s = some (a', s') ∧ q.2.2 241 6 = a' + 1 ∧ 0 ≤ a' ∧ LsR q.2.2 l s') ∨ q.1 = 1 ∧ lnR t n 5 a s = none)) := by
  have h00 := h.2.2.2.2.1
  refine iter_T (fun q : Int × Mem => RLn l m q.2 ∧ q.2 241 10 = (l : Int) ∧ ((q.1 = 0 ∧ ∃ a' s', lnR t n (5 - s'.2.1).toNat a' s' = lnR t n 5 a s ∧ WLs s' ∧ q.2 241 6 = a' ∧ (0 ≤ a' ∧ a' ≤ 900) ∧ LsR q.2 l s') ∨ q.1 = 1 ∧ ∃ a' s', lnR t n 5 a s = some (a', s') ∧ q.2 241 6 = a' + 1 ∧ 0 ≤ a' ∧ LsR q.2 l s')) (fun q => (6 - q.2 248 l).toNat) ?_ 100000 (0, m) ⟨RLn.rf l m, h10, Or.inl ⟨rfl, a, s, by rw [hs]; rfl, hw, h.2.2.2.1, by omega, hp⟩⟩ (by dsimp only; rw [hp.2.1, hs]; decide)
  rintro ⟨x, m'⟩ ⟨hf, h10', hI⟩
  dsimp only at hf h10' hI
  unfold eBX11_readLine_73 ebX11_readLine_73
  dsimp only
  rcases hI with ⟨e, a', s', hR, hw', h6, ha', hp'⟩ | ⟨e, a', s', hR, h6, ha', hp'⟩
  · subst e
    refine T_it rfl ?_
    have e5 : m' 241 5 = n := by rw [hf.1 5 (by decide) (by decide) (by decide) (by decide) (by decide) (by decide)]; exact h.2.1
    have e245 : m' 245 = t := by rw [hf.2.1 245 (by decide) (by decide) (by decide) (by decide) (by decide)]; exact h.1
    have tx : TxR m' t n a' := ⟨e245, e5, h.2.2.1, h6, by omega, by omega⟩
    have hr := hw'.2.1
    have er : m' 248 l = s'.2.1 := hp'.2.1
    have main : ∀ c : Int, (rnOk t n a' s' ↔ lgOk c (nv t n (a' + 1)) s') → (rnOk t n a' s' → c = t a') → T (ebX11_readLine_102 g c m') (G (fun q : Int × Mem => RLn l m q.2 ∧ q.2 241 10 = (l : Int) ∧ ((q.1 = 0 ∧ ∃ a' s', lnR t n (5 - s'.2.1).toNat a' s' = lnR t n 5 a s ∧ WLs s' ∧ q.2 241 6 = a' ∧ (0 ≤ a' ∧ a' ≤ 900) ∧ LsR q.2 l s') ∨ q.1 = 1 ∧ ∃ a' s', lnR t n 5 a s = some (a', s') ∧ q.2 241 6 = a' + 1 ∧ 0 ≤ a' ∧ LsR q.2 l s')) (fun q => (6 - q.2 248 l).toNat) (6 - m' 248 l).toNat (fun q => RLn l m q.2.2 ∧ q.2.2 241 10 = l ∧ ((q.1 = 2 ∧ ∃ a' s', lnR t n 5 a s = some (a', s') ∧ q.2.2 241 6 = a' + 1 ∧ 0 ≤ a' ∧ LsR q.2.2 l s') ∨ q.1 = 1 ∧ lnR t n 5 a s = none))) := by
      intro c hok hct
      unfold ebX11_readLine_102
      rw [h6, w32_id (by omega) (by omega)]
      refine T_vm' (fun m1 e1 => ?_)
      have k1 : Rat m' m1 := ⟨fun b hb => by rw [e1, ms_y hb], fun x hx => by rw [e1, ms_f hx]⟩
      have tx1 : TxR m1 t n (a' + 1) := tx.c k1 (by rw [e1, ms_at]) (by omega)
      refine T_bd2 (rNum tx1) ?_
      rintro v m2 ⟨a2, b2, c2⟩
      dsimp only at a2 b2 c2
      have k2 := k1.tr c2
      have r2 := nf_r t n (a' + 1)
      refine T_bd2 (tX11_goRun (s := s') hl (by rw [k2.1 10 (by decide)]; exact h10') hw' (hp'.c k2)) ?_
      rintro v3 m3 ⟨k3, q3⟩
      dsimp only at k3 q3
      have k0 : RLn l m m3 := (hf.tr k2.ln).tr k3.ln
      have d10 : m3 241 10 = l := by rw [k3.1 10 (by decide) (by decide) (by decide) (by decide), k2.1 10 (by decide)]; exact h10'
      have d6 : m3 241 6 = rnA t n a' := by rw [k3.1 6 (by decide) (by decide) (by decide) (by decide), b2]; rfl
      rw [a2] at q3
      rcases q3 with ⟨e, o1, o2⟩ | ⟨e, o1⟩
      · subst e
        have o := hok.mpr o1
        have hc := hct o
        rw [hc] at o2
        have oa := o.a
        have o5 : s'.2.1 < 5 := o.2.2.1
        have er3 : m3 248 l = s'.2.1 + 1 := o2.2.1
        have tx3 : TxR m3 t n (rnA t n a') := ⟨by rw [k3.2.1 245 (by decide) (by decide) (by decide) (by decide) (by decide), k2.2 245 (by decide)]; exact e245, by rw [k3.1 5 (by decide) (by decide) (by decide) (by decide), k2.1 5 (by decide)]; exact e5, h.2.2.1, d6, by omega, by have := h.2.2.1; omega⟩
        refine T_ie (by decide) (T_bd2 (rSign tx3) ?_)
        rintro v4 m4 ⟨a4, b4, c4⟩
        dsimp only at a4 b4 c4
        have es : (5 - s'.2.1).toNat = (5 - (s'.2.1 + 1)).toNat + 1 := by omega
        have hn2 := h.2.2.1
        rcases sg_r t n (rnA t n a') 59 with q | q
        · refine T_mono (T_go (I := fun q : Int × Mem => RLn l m q.2 ∧ q.2 241 10 = (l : Int) ∧ ((q.1 = 0 ∧ ∃ a' s', lnR t n (5 - s'.2.1).toNat a' s' = lnR t n 5 a s ∧ WLs s' ∧ q.2 241 6 = a' ∧ (0 ≤ a' ∧ a' ≤ 900) ∧ LsR q.2 l s') ∨ q.1 = 1 ∧ ∃ a' s', lnR t n 5 a s = some (a', s') ∧ q.2 241 6 = a' + 1 ∧ 0 ≤ a' ∧ LsR q.2 l s')) ⟨k0.tr c4.ln, ?_, Or.inl ⟨a4.trans q, rnA t n a', rnS t n a' s', ?_, o.w hw', ?_, ⟨by omega, by omega⟩, LsR.c o2 c4⟩⟩ ?_) (fun _ hh => hh)
          · dsimp only; rw [c4.1 10 (by decide)]; exact d10
          · rw [← hR, es, lnR_go o (by omega)]; rfl
          · dsimp only; rw [b4, q]; omega
          · dsimp only; rw [c4.2 248 (by decide), er3, er]; omega
        · refine T_mono (T_go (I := fun q : Int × Mem => RLn l m q.2 ∧ q.2 241 10 = (l : Int) ∧ ((q.1 = 0 ∧ ∃ a' s', lnR t n (5 - s'.2.1).toNat a' s' = lnR t n 5 a s ∧ WLs s' ∧ q.2 241 6 = a' ∧ (0 ≤ a' ∧ a' ≤ 900) ∧ LsR q.2 l s') ∨ q.1 = 1 ∧ ∃ a' s', lnR t n 5 a s = some (a', s') ∧ q.2 241 6 = a' + 1 ∧ 0 ≤ a' ∧ LsR q.2 l s')) ⟨k0.tr c4.ln, ?_, Or.inr ⟨a4.trans q, rnA t n a', rnS t n a' s', ?_, ?_, by omega, LsR.c o2 c4⟩⟩ ?_) (fun _ hh => hh)
          · dsimp only; rw [c4.1 10 (by decide)]; exact d10
          · rw [← hR, es, lnR_end o q]
          · dsimp only; rw [b4, q]
          · dsimp only; rw [c4.2 248 (by decide), er3, er]; omega
      · subst e
        refine T_it rfl (T_out (by decide) ⟨k0, d10, Or.inr ⟨rfl, ?_⟩⟩)
        rw [← hR, lnR_no (fun q => o1 (hok.mp q))]
    simp only [h6, e5]
    refine T_if (fun hc => main 0 ⟨fun q => ?_, fun q => ?_⟩ (fun q => ?_)) (fun hc => T_ck ⟨by omega, by have := h.2.2.1; omega⟩ ?_)
    · have := q.1.1; omega
    · exact absurd q.1 (by unfold wC; decide)
    · have := q.1.1; omega
    · rw [e245]
      exact main (t a') ⟨fun q => ⟨q.1.2, q.2⟩, fun q => ⟨⟨by omega, q.1⟩, q.2⟩⟩ (fun _ => rfl)
  · subst e
    exact T_ie (by decide) (T_out (by decide) ⟨hf, h10', Or.inl ⟨rfl, a', s', hR, h6, ha', hp'⟩⟩)
theorem tX11_readLine {g : Shp} {m : Mem} {t : Int → Int} {n a : Int} {l : Nat} (hl : l ≤ 3) (h10 : m 241 10 = l) (h : TxR m t n a) (ha : a ≤ 500) :
    T (eX11_readLine g m) (fun q => (l = 3 → Rat m q.2) ∧ RLn l m q.2 ∧ ((q.1 = 1 ∧ l < 3 ∧ q.2 241 10 = l + 1 ∧ ∃ a' s, lnF t n a = some (a', s) ∧ q.2 241 6 = a' + 1 ∧ 0 ≤ a' ∧ LsR q.2 l s) ∨ q.1 = 0 ∧ ¬ (l < 3 ∧ ∃ a' s, lnF t n a = some (a', s)))) := by
  have h00 := h.2.2.2.2.1
  unfold eX11_readLine ebX11_readLine_0 ebX11_readLine_62
  refine T_bd2 (rNum h) ?_
  rintro v1 m1 ⟨a1, b1, c1⟩
  dsimp only at a1 b1 c1
  have r1 := nf_r t n a
  refine T_bd2 (rSign (h.c c1 b1 (by omega))) ?_
  rintro v2 m2 ⟨a2, b2, c2⟩
  dsimp only at a2 b2 c2
  have r2 := sg_r t n (a + nf t n a) 44
  refine T_bd2 (rNum (h.c (c1.tr c2) b2 (by omega))) ?_
  rintro v3 m3 ⟨a3, b3, c3⟩
  dsimp only at a3 b3 c3
  generalize hp2 : a + nf t n a + sg t n (a + nf t n a) 44 = p2 at *
  have r3 := nf_r t n p2
  refine T_bd2 (rSign (h.c ((c1.tr c2).tr c3) b3 (by omega))) ?_
  rintro v4 m4 ⟨a4, b4, c4⟩
  dsimp only at a4 b4 c4
  have r4 := sg_r t n (p2 + nf t n p2) 44
  have k4 := ((c1.tr c2).tr c3).tr c4
  have e0 : ps t n a 0 = a := rfl
  have e1 : ps t n a 1 = a + nf t n a + 1 := rfl
  have i1 : v2 = 1 → ps t n a 1 = p2 := fun q => by rw [e1]; omega
  have e2 : ps t n a 2 = ps t n a 1 + nf t n (ps t n a 1) + 1 := rfl
  have i2 : v2 = 1 → v4 = 1 → ps t n a 2 = p2 + nf t n p2 + 1 := fun q1 q2 => by rw [e2, i1 q1]
  have okE : (nmOk t n a 0 19 2 ∧ sg t n (ps t n a 2 - 1) 44 = 1) ↔ v2 = 1 ∧ v4 = 1 ∧ (0 ≤ v1 ∧ v1 ≤ 19) ∧ 0 ≤ v3 ∧ v3 ≤ 19 := by
    constructor
    · rintro ⟨q1, q4⟩
      have z0 := (q1 0 (by decide)).2
      have z1 := q1 1 (by decide)
      have s1 := z1.1 (by decide)
      rw [e1, show a + nf t n a + 1 - 1 = a + nf t n a by omega, ← a2] at s1
      have z1' := z1.2
      rw [i1 s1, ← a3] at z1'
      rw [e2, i1 s1, show p2 + nf t n p2 + 1 - 1 = p2 + nf t n p2 by omega, ← a4] at q4
      rw [e0, ← a1] at z0
      exact ⟨s1, q4, z0, z1'⟩
    · rintro ⟨s1, s2, q1, q2⟩
      refine ⟨fun j hj => ?_, ?_⟩
      · rcases (show j = 0 ∨ j = 1 by omega) with e | e
        · subst e; rw [e0, ← a1]; exact ⟨fun h => absurd h (by decide), q1⟩
        · subst e
          refine ⟨fun _ => ?_, ?_⟩
          · rw [e1, show a + nf t n a + 1 - 1 = a + nf t n a by omega, ← a2]; exact s1
          · rw [i1 s1, ← a3]; exact q2
      · rw [i2 s1 s2, show p2 + nf t n p2 + 1 - 1 = p2 + nf t n p2 by omega, ← a4]; exact s2
  have no : ∀ m' : Mem, Rat m m' → ¬ (l < 3 ∧ nmOk t n a 0 19 2 ∧ sg t n (ps t n a 2 - 1) 44 = 1) → T (some ((0 : Int), m')) (fun q => (l = 3 → Rat m q.2) ∧ RLn l m q.2 ∧ ((q.1 = 1 ∧ l < 3 ∧ q.2 241 10 = l + 1 ∧ ∃ a' s, lnF t n a = some (a', s) ∧ q.2 241 6 = a' + 1 ∧ 0 ≤ a' ∧ LsR q.2 l s) ∨ q.1 = 0 ∧ ¬ (l < 3 ∧ ∃ a' s, lnF t n a = some (a', s)))) := by
    intro m' hr hno
    refine T_some ⟨fun _ => hr, hr.ln, Or.inr ⟨rfl, ?_⟩⟩
    rintro ⟨q1, a', s, q2⟩
    unfold lnF at q2
    rw [if_neg (fun q => hno ⟨q1, q⟩)] at q2
    exact absurd q2 (by simp)
  have e10 : m4 241 10 = l := by rw [k4.1 10 (by decide)]; exact h10
  rw [e10]
  rw [← a2] at r2
  rw [← a4] at r4
  refine T_if (fun z => no m4 k4 (fun q => by have := q.1; clear okE i1 i2; omega)) (fun z => T_if (fun z2 => no m4 k4 (fun q => absurd ((okE.mp q.2).1.symm.trans z2) (by decide))) (fun z2 => T_if (fun z4 => no m4 k4 (fun q => absurd ((okE.mp q.2).2.1.symm.trans z4) (by decide))) (fun z4 => T_bd2 tX11_in ?_)))
  intro r m5 e
  cases e
  have w2 := r2.resolve_left z2
  have w4 := r4.resolve_left z4
  by_cases hv : 0 ≤ v1 ∧ v1 ≤ 19
  · rw [if_pos hv]
    refine T_ie (by decide) (T_bd2 tX11_in ?_)
    intro r m6 e
    cases e
    by_cases hv3 : 0 ≤ v3 ∧ v3 ≤ 19
    · rw [if_pos hv3]
      have hl3 : l < 3 := by clear okE i1 i2; omega
      have ok := okE.mpr ⟨w2, w4, hv, hv3⟩
      have hF : lnF t n a = lnR t n 5 (ps t n a 2) (lsZ v1 v3) := by
        unfold lnF
        rw [if_pos ok, e0, i1 w2, a1, a3]
      refine T_ie (by decide) (T_bd2 (Q := fun q => LsR q.2 l (lsZ v1 v3) ∧ RLn l m4 q.2 ∧ q.2 241 10 = l ∧ q.2 241 6 = m4 241 6) ?_ ?_)
      · unfold eX11_beginLine ebX11_beginLine_0
        rw [e10]
        refine T_ck (by clear okE i1 i2; omega) (T_vm' (fun m7 e7 => ?_))
        rw [show m7 241 10 = l by rw [e7, ms_x (by decide)]; exact e10]
        refine T_ck (by clear okE i1 i2; omega) (T_vm' (fun m8 e8 => T_vm' (fun m9 e9 => T_vm' (fun ma ea => T_vm' (fun mb eb => T_some ⟨⟨⟨?_, ?_, ?_, ?_, fun k k0 k1 => absurd k1 (by show ¬ k < 0; clear okE i1 i2; omega)⟩, ?_, fun hh => absurd hh (by show ¬ (0 : Int) < 0; decide), fun k k0 k1 => absurd k1 (by show ¬ k < 0; clear okE i1 i2; omega)⟩, ⟨fun b q1 q2 q3 q4 q5 q6 => ?_, fun x x1 x2 x3 x4 x5 => ?_, fun i hi => ⟨?_, ?_⟩, fun j hj => ?_, fun j hj => ?_⟩, ?_, ?_⟩)))))
        · dsimp only; rw [eb, ms_y (by decide), ea, ms_y (by decide), e9, ms_at]; rfl
        · dsimp only; rw [eb, ms_y (by decide), ea, ms_at]; rfl
        · dsimp only; rw [eb, ms_at]; rfl
        · dsimp only; rw [eb, ms_x (by decide), ea, ms_x (by decide), e9, ms_x (by decide), e8, ms_at]; rfl
        · dsimp only; rw [eb, ms_x (by decide), ea, ms_x (by decide), e9, ms_x (by decide), e8, ms_x (by decide), e7, ms_at]; rfl
        · dsimp only; rw [eb, ms_y q5, ea, ms_y q4, e9, ms_y q3, e8, ms_x (by decide), e7, ms_x (by decide)]
        · dsimp only; rw [eb, ms_f x1, ea, ms_f x1, e9, ms_f x1, e8, ms_f x4, e7, ms_f x2]
        · dsimp only; rw [eb, ms_x (by decide), ea, ms_x (by decide), e9, ms_x (by decide), e8, ms_x (by decide), e7, ms_y hi]
        · dsimp only; rw [eb, ms_x (by decide), ea, ms_x (by decide), e9, ms_x (by decide), e8, ms_y hi, e7, ms_x (by decide)]
        · dsimp only; rw [eb, ms_x (by decide), ea, ms_x (by decide), e9, ms_x (by decide), e8, ms_x (by decide), e7, ms_x (by decide)]
        · dsimp only; rw [eb, ms_x (by decide), ea, ms_x (by decide), e9, ms_x (by decide), e8, ms_x (by decide), e7, ms_x (by decide)]
        · dsimp only; rw [eb, ms_y (by decide), ea, ms_y (by decide), e9, ms_y (by decide), e8, ms_x (by decide), e7, ms_x (by decide)]; exact e10
        · dsimp only; rw [eb, ms_y (by decide), ea, ms_y (by decide), e9, ms_y (by decide), e8, ms_x (by decide), e7, ms_x (by decide)]
      · rintro rb mb ⟨u1, u2, u3, u4⟩
        dsimp only at u1 u2 u3 u4
        have e6 : m4 241 6 = ps t n a 2 := by rw [i2 w2 w4, b4, ← a4, w4]
        have hps := ps_r (t := t) (n := n) (a := a) 2
        have tx : TxR mb t n (ps t n a 2) := ⟨by rw [u2.2.1 245 (by decide) (by decide) (by decide) (by decide) (by decide), k4.2 245 (by decide)]; exact h.1, by rw [u2.1 5 (by decide) (by decide) (by decide) (by decide) (by decide) (by decide), k4.1 5 (by decide)]; exact h.2.1, h.2.2.1, u4.trans e6, by clear okE i1 i2; omega, by clear okE i1 i2; omega⟩
        refine T_bdl (tX11_runs hl3 u3 (WLs.z hv hv3) rfl u1 tx (by clear okE i1 i2; omega)) ?_
        rintro c ⟨x, mc⟩ ⟨f1, f2, f3⟩
        dsimp only at f1 f2 f3
        have kc : RLn l m mc := (k4.ln.tr u2).tr f1
        rw [hF]
        rcases f3 with ⟨e, a', s', y1, y2, y3, y4⟩ | ⟨e, y⟩
        · subst e
          refine T_ie (by decide) ?_
          unfold ebX11_readLine_140
          dsimp only
          rw [f2, w32_id (by clear okE i1 i2; omega) (by clear okE i1 i2; omega)]
          refine T_vm' (fun md ed => T_some ⟨fun q => absurd q (by clear okE i1 i2; omega), kc.tr ⟨fun b _ q2 _ _ _ _ => by dsimp only; rw [ed, ms_y q2], fun x x1 _ _ _ _ => by dsimp only; rw [ed, ms_f x1], fun i _ => ⟨by dsimp only; rw [ed, ms_x (by decide)], by dsimp only; rw [ed, ms_x (by decide)]⟩, fun j _ => by dsimp only; rw [ed, ms_x (by decide)], fun j _ => by dsimp only; rw [ed, ms_x (by decide)]⟩, Or.inl ⟨rfl, hl3, ?_, a', s', y1, ?_, y3, ?_⟩⟩)
          · dsimp only; rw [ed, ms_at]
          · dsimp only; rw [ed, ms_y (by decide)]; exact y2
          · dsimp only
            exact y4.d ⟨fun b _ b2 => by rw [ed, ms_y b2], fun x x1 => by rw [ed, ms_f x1]⟩
        · subst e
          refine T_it rfl (T_some ⟨fun q => absurd q (by clear okE i1 i2; omega), kc, Or.inr ⟨rfl, ?_⟩⟩)
          rw [y]
          rintro ⟨_, a', s, q⟩
          exact absurd q (by simp)
    · rw [if_neg hv3]
      exact T_it rfl (no m4 k4 (fun q => hv3 (okE.mp q.2).2.2.2))
  · rw [if_neg hv]
    exact T_it rfl (no m4 k4 (fun q => hv (okE.mp q.2).2.2.1))
