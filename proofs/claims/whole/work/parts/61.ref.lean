def itR (m : Mem) (t : Int → Int) (n a : Int) (l : Nat) (m' : Mem) : Prop :=
  (t a = 122 ∧ okZ t n (a + 1) ∧ m' 241 6 = ps t n (a + 1) 3 ∧ (∀ k, 0 ≤ k → k < 3 → m' 246 k = nv t n (ps t n (a + 1) k.toNat)) ∧ (∀ b, b ≠ 6 → m' 241 b = m 241 b) ∧ ∀ x, x ≠ 241 → x ≠ 246 → m' x = m x)
  ∨ (t a = 106 ∧ okJ t n (a + 1) ∧ m' 241 6 = ps t n (a + 1) 1 ∧ m' 241 8 = nv t n (ps t n (a + 1) 0) ∧ (∀ b, b ≠ 6 → b ≠ 8 → m' 241 b = m 241 b) ∧ ∀ x, x ≠ 241 → m' x = m x)
  ∨ (t a = 98 ∧ okB t n (a + 1) ∧ m' 241 6 = ps t n (a + 1) 4 ∧ (∀ k, 0 ≤ k → k < 9 → m' 247 k = bgV t n (a + 1) (m 247) k) ∧ (∀ b, b ≠ 6 → m' 241 b = m 241 b) ∧ ∀ x, x ≠ 241 → x ≠ 247 → m' x = m x)
  ∨ (t a = 108 ∧ l < 3 ∧ ∃ a' s, lnF t n (a + 1) = some (a', s) ∧ m' 241 6 = a' + 1 ∧ 0 ≤ a' ∧ LsR m' l s ∧ m' 241 10 = l + 1 ∧ RLn l m m')
def RAll (m m' : Mem) : Prop := (∀ b, b ≠ 6 → b ≠ 8 → b ≠ 10 → b ≠ 15 → b ≠ 16 → b ≠ 17 → b ≠ 18 → m' 241 b = m 241 b) ∧ ∀ x, x ≠ 241 → (x < 246 ∨ 251 < x) → m' x = m x
theorem RAll.rf (m : Mem) : RAll m m := ⟨fun _ _ _ _ _ _ _ _ => rfl, fun _ _ _ => rfl⟩
theorem RAll.tr {m m' m'' : Mem} (h : RAll m m') (h2 : RAll m' m'') : RAll m m'' := ⟨fun b b1 b2 b3 b4 b5 b6 b7 => (h2.1 b b1 b2 b3 b4 b5 b6 b7).trans (h.1 b b1 b2 b3 b4 b5 b6 b7), fun x a b => (h2.2 x a b).trans (h.2 x a b)⟩
theorem RLn.all {l : Nat} {m m' : Mem} (h : RLn l m m') : RAll m m' := ⟨fun b b1 _ b3 b4 b5 b6 b7 => h.1 b b1 b3 b4 b5 b6 b7, fun x x1 x2 => h.2.1 x x1 (by omega) (by omega) (by omega) (by omega)⟩
theorem tX11_readItem {g : Shp} {m : Mem} {t : Int → Int} {n a : Int} {l : Nat} (hl : l ≤ 3) (h10 : m 241 10 = l) (h : TxR m t n a) (hn : a < n) :
    T (eX11_readItem g m) (fun q => RAll m q.2 ∧ ((q.1 = 1 ∧ itR m t n a l q.2) ∨ q.1 = 0 ∧ ¬ itOk t n l a)) := by
  obtain ⟨t1, t2, t3, t4, t5, t6⟩ := h
  unfold eX11_readItem ebX11_readItem_0
  simp only [t4, t1]
  refine T_ck ⟨by omega, by omega⟩ (T_vv (T_vm' (fun m1 e1 => ?_)))
  rw [w32_id (by omega) (by omega)] at e1
  have k1 : Rat m m1 := ⟨fun b hb => by rw [e1, ms_y hb], fun x hx => by rw [e1, ms_f hx]⟩
  have tx : TxR m1 t n (a + 1) := ⟨by rw [k1.2 245 (by decide)]; exact t1, by rw [k1.1 5 (by decide)]; exact t2, t3, by rw [e1, ms_at], by omega, by omega⟩
  refine T_if (fun h98 => ?_) (fun h98 => T_if (fun h106 => ?_) (fun h106 => T_if (fun h108 => ?_) (fun h108 => T_if (fun h122 => ?_) (fun h122 => ?_))))
  · refine T_bd2 (tX11_readTheBag tx (by omega)) ?_
    rintro v m2 ⟨u1, u2, u3⟩
    dsimp only at u1 u2 u3
    refine T_some ⟨⟨fun b b1 _ _ _ _ _ _ => (u1 b b1).trans (k1.1 b b1), fun x x1 x2 => (u2 x x1 (by omega)).trans (k1.2 x x1)⟩, ?_⟩
    rcases u3 with ⟨e, y1, y2, y3⟩ | ⟨e, y⟩
    · refine Or.inl ⟨e, Or.inr (Or.inr (Or.inl ⟨h98, y1, y2, fun k k0 k9 => ?_, fun b hb => (u1 b hb).trans (k1.1 b hb), fun x x1 x2 => (u2 x x1 x2).trans (k1.2 x x1)⟩))⟩
      dsimp only
      rw [y3 k k0 k9, k1.2 247 (by decide)]
    · exact Or.inr ⟨e, it_b h98 y⟩
  · refine T_bd2 (rNum tx) ?_
    rintro v m2 ⟨a2, b2, c2⟩
    dsimp only at a2 b2 c2
    have k2 := k1.tr c2
    refine T_vm' (fun m3 e3 => T_bd2 tX11_in ?_)
    intro r m4 e
    cases e
    have f1 : ∀ b, b ≠ 6 → b ≠ 8 → m3 241 b = m 241 b := fun b b1 b2 => by rw [e3, ms_y b2]; exact k2.1 b b1
    have f2 : ∀ x, x ≠ 241 → m3 x = m x := fun x x1 => by rw [e3, ms_f x1]; exact k2.2 x x1
    have r2 := nf_r t n (a + 1)
    have ep : ps t n (a + 1) 1 = a + 1 + nf t n (a + 1) + 1 := rfl
    have e0 : ps t n (a + 1) 0 = a + 1 := rfl
    unfold ebX11_readItem_101 ebX11_readItem_102
    by_cases hv : 0 ≤ v ∧ v ≤ 2
    · rw [if_pos hv]
      have tx3 : TxR m3 t n (a + 1 + nf t n (a + 1)) := ⟨by rw [f2 245 (by decide)]; exact t1, by rw [f1 5 (by decide) (by decide)]; exact t2, t3, by rw [e3, ms_y (by decide)]; exact b2, by omega, by omega⟩
      refine T_ie (by decide) (T_bd2 (rSign tx3) ?_)
      rintro v4 m5 ⟨a5, b5, c5⟩
      dsimp only at a5 b5 c5
      have ra : RAll m m5 := ⟨fun b b1 b2 _ _ _ _ _ => (c5.1 b b1).trans (f1 b b1 b2), fun x x1 _ => (c5.2 x x1).trans (f2 x x1)⟩
      have hnm : nmOk t n (a + 1) 0 2 1 := by
        intro j hj
        have : j = 0 := by omega
        subst this
        rw [e0, ← a2]
        exact ⟨fun h => absurd h (by decide), hv⟩
      refine T_if (fun z => T_ck (by decide) (T_some ⟨ra, Or.inr ⟨rfl, it_j h106 (fun q => ?_)⟩⟩)) (fun z => T_ck (by decide) (T_some ⟨ra, Or.inl ⟨rfl, Or.inr (Or.inl ⟨h106, ⟨hnm, ?_⟩, ?_, ?_, fun b b1 b2 => (c5.1 b b1).trans (f1 b b1 b2), fun x x1 => (c5.2 x x1).trans (f2 x x1)⟩)⟩⟩))
      · have := q.2
        rw [ep, show a + 1 + nf t n (a + 1) + 1 - 1 = a + 1 + nf t n (a + 1) by omega] at this
        omega
      · rw [ep, show a + 1 + nf t n (a + 1) + 1 - 1 = a + 1 + nf t n (a + 1) by omega]
        exact (sg_r t n _ 59).resolve_left (fun q => z (a5.trans q))
      · have := (sg_r t n (a + 1 + nf t n (a + 1)) 59).resolve_left (fun q => z (a5.trans q))
        dsimp only
        rw [ep, b5, this]
      · dsimp only
        rw [c5.1 8 (by decide), e3, ms_at, a2, e0]
    · rw [if_neg hv]
      refine T_it rfl (T_ck (by decide) (T_some ⟨⟨fun b b1 b2 _ _ _ _ _ => f1 b b1 b2, fun x x1 _ => f2 x x1⟩, Or.inr ⟨rfl, it_j h106 (fun q => hv ?_)⟩⟩))
      have := (q.1 0 (by decide)).2
      rw [e0, ← a2] at this
      exact this
  · refine T_bd2 (tX11_readLine hl (by rw [k1.1 10 (by decide)]; exact h10) tx (by omega)) ?_
    rintro v m2 ⟨u0, u1, u2⟩
    dsimp only at u0 u1 u2
    have kl : RLn l m m2 := k1.ln.tr u1
    refine T_some ⟨kl.all, ?_⟩
    rcases u2 with ⟨e, y1, y2, a', s, y3, y4, y5, y6⟩ | ⟨e, y⟩
    · exact Or.inl ⟨e, Or.inr (Or.inr (Or.inr ⟨h108, y1, a', s, y3, y4, y5, y6, y2, kl⟩))⟩
    · exact Or.inr ⟨e, it_l h108 y⟩
  · refine T_bd2 (tX11_readSizes tx (by omega)) ?_
    rintro v m2 ⟨u1, u2, u3⟩
    dsimp only at u1 u2 u3
    refine T_some ⟨⟨fun b b1 _ _ _ _ _ _ => (u1 b b1).trans (k1.1 b b1), fun x x1 x2 => (u2 x x1 (by omega)).trans (k1.2 x x1)⟩, ?_⟩
    rcases u3 with ⟨e, y1, y2, y3⟩ | ⟨e, y⟩
    · exact Or.inl ⟨e, Or.inl ⟨h122, y1, y2, y3, fun b hb => (u1 b hb).trans (k1.1 b hb), fun x x1 x2 => (u2 x x1 x2).trans (k1.2 x x1)⟩⟩
    · exact Or.inr ⟨e, it_z h122 y⟩
  · refine T_some ⟨⟨fun b b1 _ _ _ _ _ _ => k1.1 b b1, fun x x1 _ => k1.2 x x1⟩, Or.inr ⟨rfl, ?_⟩⟩
    rintro (⟨q, _⟩ | ⟨q, _⟩ | ⟨q, _⟩ | ⟨q, _⟩)
    · exact h122 q
    · exact h106 q
    · exact h98 q
    · exact h108 q
/-! ===== what a text tells, pure ===== -/
abbrev St : Type := Dt × Int × (Int → Int)
def addL (d : Dt) (s : Ls) : Dt := (dl d + 1, dz d, up (dr d) (dl d) s.2.1, (fun x => if 5 * dl d ≤ x ∧ x < 5 * dl d + 5 then s.2.2.2 (x - 5 * dl d) else d.2.2.2.1 x), up (dn d) (dl d) s.1.2.2.1, (fun x => if 60 * dl d ≤ x ∧ x < 60 * dl d + 60 then s.1.2.2.2 (x - 60 * dl d) else d.2.2.2.2.2 x))
noncomputable def itN (t : Int → Int) (n a : Int) (S : St) : Option (Int × St) :=
  @ite _ (t a = 122 ∧ okZ t n (a + 1)) (Classical.propDecidable _) (some (ps t n (a + 1) 3, ((dl S.1, (fun k => nv t n (ps t n (a + 1) k.toNat)), S.1.2.2), S.2)))
  (@ite _ (t a = 106 ∧ okJ t n (a + 1)) (Classical.propDecidable _) (some (ps t n (a + 1) 1, (S.1, nv t n (ps t n (a + 1) 0), S.2.2)))
  (@ite _ (t a = 98 ∧ okB t n (a + 1)) (Classical.propDecidable _) (some (ps t n (a + 1) 4, (S.1, S.2.1, bgV t n (a + 1) S.2.2)))
  (@ite _ (t a = 108 ∧ dl S.1 < 3) (Classical.propDecidable _) ((lnF t n (a + 1)).map fun q => (q.1 + 1, (addL S.1 q.2, S.2))) none)))
theorem itN_z {t : Int → Int} {n a : Int} {S : St} (h : t a = 122) (h2 : okZ t n (a + 1)) : itN t n a S = some (ps t n (a + 1) 3, ((dl S.1, (fun k => nv t n (ps t n (a + 1) k.toNat)), S.1.2.2), S.2)) := by
  unfold itN; rw [if_pos ⟨h, h2⟩]
theorem itN_j {t : Int → Int} {n a : Int} {S : St} (h : t a = 106) (h2 : okJ t n (a + 1)) : itN t n a S = some (ps t n (a + 1) 1, (S.1, nv t n (ps t n (a + 1) 0), S.2.2)) := by
  unfold itN; rw [if_neg (fun q => by have := q.1; omega), if_pos ⟨h, h2⟩]
theorem itN_b {t : Int → Int} {n a : Int} {S : St} (h : t a = 98) (h2 : okB t n (a + 1)) : itN t n a S = some (ps t n (a + 1) 4, (S.1, S.2.1, bgV t n (a + 1) S.2.2)) := by
  unfold itN; rw [if_neg (fun q => by have := q.1; omega), if_neg (fun q => by have := q.1; omega), if_pos ⟨h, h2⟩]
theorem itN_l {t : Int → Int} {n a a' : Int} {S : St} {s : Ls} (h : t a = 108) (h2 : dl S.1 < 3) (h3 : lnF t n (a + 1) = some (a', s)) : itN t n a S = some (a' + 1, (addL S.1 s, S.2)) := by
  unfold itN; rw [if_neg (fun q => by have := q.1; omega), if_neg (fun q => by have := q.1; omega), if_neg (fun q => by have := q.1; omega), if_pos ⟨h, h2⟩, h3]; rfl
theorem itN_n {t : Int → Int} {n a : Int} {S : St} {l : Nat} (hl : dl S.1 = l) (h : ¬ itOk t n l a) : itN t n a S = none := by
  unfold itN
  rw [if_neg (fun q => h (Or.inl q)), if_neg (fun q => h (Or.inr (Or.inl q))), if_neg (fun q => h (Or.inr (Or.inr (Or.inl q))))]
  by_cases e : t a = 108 ∧ dl S.1 < 3
  · rw [if_pos e]
    cases hF : lnF t n (a + 1) with
    | none => rfl
    | some q => exact absurd (Or.inr (Or.inr (Or.inr ⟨e.1, by omega, q.1, q.2, hF⟩))) h
  · rw [if_neg e]
