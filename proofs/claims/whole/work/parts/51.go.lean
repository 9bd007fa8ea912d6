/-! ===== a run goes: the program's side ===== -/
theorem tX10_isOnGround {g : Shp} {m : Mem} {x y : Int} : T (eX10_isOnGround g x y m) (fun q => q = ((if (0 ≤ x ∧ x ≤ 19) ∧ 0 ≤ y ∧ y ≤ 19 then 1 else 0), m)) := by
  unfold eX10_isOnGround ebX10_isOnGround_0 ebX10_isOnGround_24 ebX10_isOnGround_25
  refine T_if (fun h => T_ck (by decide) (T_some (by rw [if_neg (by omega)]))) (fun h1 => T_if (fun h => T_ck (by decide) (T_some (by rw [if_neg (by omega)]))) (fun h2 => T_if (fun h => T_ck (by decide) (T_some (by rw [if_neg (by omega)]))) (fun h3 => T_if (fun h => T_ck (by decide) (T_some (by rw [if_neg (by omega)]))) (fun h4 => T_ck (by decide) (T_some (by rw [if_pos (by omega)]))))))
def PtC (m : Mem) (p : Int) (q : Pt) : Prop := m p 4 = q.1 ∧ m p 5 = q.2.1 ∧ m p 2 = q.2.2.1 ∧ ∀ k, 0 ≤ k → k < q.2.2.1 → m (p + 1) k = q.2.2.2 k
def WPt (q : Pt) : Prop := (0 ≤ q.1 ∧ q.1 ≤ 19) ∧ (0 ≤ q.2.1 ∧ q.2.1 ≤ 19) ∧ 0 ≤ q.2.2.1
theorem ptGo_n {dx dy : Int} {q : Pt} : ∀ k : Nat, (ptGo dx dy k q).2.2.1 = q.2.2.1 + k
  | 0 => by simp [ptGo]
  | k + 1 => by
    have h := ptGo_n (dx := dx) (dy := dy) (q := q) k
    show (ptGo dx dy k q).2.2.1 + 1 = _
    rw [h]
    omega
theorem ptGo_w {dx dy : Int} {q : Pt} (h : WPt q) : ∀ k : Nat, ptAll dx dy k q → WPt (ptGo dx dy k q)
  | 0, _ => h
  | k + 1, ha => by
    have h1 := ha k (by omega)
    have h2 := (ptGo_w h k (fun j hj => ha j (by omega))).2.2
    exact ⟨h1.1.1, h1.1.2, by show 0 ≤ (ptGo dx dy k q).2.2.1 + 1; omega⟩
theorem ptAll_s {dx dy : Int} {q : Pt} {k : Nat} (h : ptAll dx dy k q) (h2 : ptOk dx dy (ptGo dx dy k q)) : ptAll dx dy (k + 1) q := by
  intro j hj
  by_cases e : j = k
  · rw [e]; exact h2
  · exact h j (by omega)
def ovF (f : Nat → Int → Bool) (l : Nat) (q : Pt) : Nat → Int → Bool := fun i c => if i = l then onC q.2.2.1 q.2.2.2 c else f i c
theorem ovF_s {f : Nat → Int → Bool} {l : Nat} {q : Pt} {dx dy : Int} (h : 0 ≤ q.2.2.1) (i : Nat) (c : Int) : ovF f l (ptNx dx dy q) i c = (ovF f l q i c || (decide (i = l) && decide (c = 20 * ptY dy q + ptX dx q))) := by
  unfold ovF ptNx
  by_cases e : i = l
  · rw [if_pos e, if_pos e]
    simp only
    rw [onC_s h, decide_eq_true e, Bool.true_and]
    congr 1
    exact decide_eq_decide.mpr eq_comm
  · rw [if_neg e, if_neg e, decide_eq_false e, Bool.false_and, Bool.or_false]
def goQ (m : Mem) (p ov dx dy n : Int) (f : Nat → Int → Bool) (l : Nat) (q : Pt) (r : Int × (Int × Mem)) : Prop :=
  (∀ a, a ≠ p → a ≠ p + 1 → a ≠ ov → r.2.2 a = m a) ∧ (∀ b, b ≠ 2 → b ≠ 4 → b ≠ 5 → r.2.2 p b = m p b) ∧
  ((r.1 = 3 ∧ ptAll dx dy n.toNat q ∧ PtC r.2.2 p (ptGo dx dy n.toNat q) ∧ OvB r.2.2 ov (ovF f l (ptGo dx dy n.toNat q))) ∨ (r.1 = 1 ∨ r.1 = 2) ∧ ¬ ptAll dx dy n.toNat q)
def goI (m : Mem) (p ov dx dy n : Int) (f : Nat → Int → Bool) (l : Nat) (q : Pt) (k : Int) (m' : Mem) : Prop :=
  (0 ≤ k ∧ k ≤ n) ∧ ptAll dx dy k.toNat q ∧ PtC m' p (ptGo dx dy k.toNat q) ∧ OvB m' ov (ovF f l (ptGo dx dy k.toNat q)) ∧ (∀ a, a ≠ p → a ≠ p + 1 → a ≠ ov → m' a = m a) ∧ (∀ b, b ≠ 2 → b ≠ 4 → b ≠ 5 → m' p b = m p b)
theorem go_step {g : Shp} {m m' : Mem} {p ov dx dy n w k : Int} {f : Nat → Int → Bool} {l : Nat} {q : Pt} (hl : l < 3) (ho : ov < p) (hg : gl g ov = 400) (hw : WPt q) (hn : n ≤ 12 ∧ q.2.2.1 ≤ 48)
    (hk : 0 ≤ k ∧ k < n) (ha : ptAll dx dy k.toNat q) (h4 : m' p 4 = ptX dx (ptGo dx dy k.toNat q)) (h5 : m' p 5 = ptY dy (ptGo dx dy k.toNat q)) (h2 : m' p 2 = (ptGo dx dy k.toNat q).2.2.1)
    (hc : ∀ j, 0 ≤ j → j < (ptGo dx dy k.toNat q).2.2.1 → m' (p + 1) j = (ptGo dx dy k.toNat q).2.2.2 j) (hov : OvB m' ov (ovF f l (ptGo dx dy k.toNat q))) (hf : ∀ a, a ≠ p → a ≠ p + 1 → a ≠ ov → m' a = m a) (hb : ∀ b, b ≠ 2 → b ≠ 4 → b ≠ 5 → m' p b = m p b) :
    T (ebX5_go_73 g p dx dy n ov (bShl 1 (l : Int)) w k m') (G (fun s => goI m p ov dx dy n f l q s.1 s.2) (fun s => (n - s.1).toNat) (n - k).toNat (goQ m p ov dx dy n f l q)) := by
  have hq := ptGo_w hw k.toNat ha
  have en := ptGo_n (dx := dx) (dy := dy) (q := q) k.toNat
  have es : (k + 1).toNat = k.toNat + 1 := by omega
  have bad : ¬ ptOk dx dy (ptGo dx dy k.toNat q) → ¬ ptAll dx dy n.toNat q := fun h hx => h (hx k.toNat (by omega))
  have e1 : (ptGo dx dy (k.toNat + 1) q) = ptNx dx dy (ptGo dx dy k.toNat q) := rfl
  have hq0 := hq.2.2
  have hw0 := hw.2.2
  generalize hQ : ptGo dx dy k.toNat q = Q at *
  unfold ebX5_go_73
  refine T_ie (by have := hw.2.2; omega) (T_bd2 tX10_isOnGround ?_)
  intro r m2 e
  cases e
  rw [h4, h5]
  by_cases hin : (0 ≤ ptX dx Q ∧ ptX dx Q ≤ 19) ∧ 0 ≤ ptY dy Q ∧ ptY dy Q ≤ 19
  · rw [if_pos hin]
    refine T_ie (by decide) (T_vv ?_)
    rw [w32_id (x := 20 * ptY dy Q) (by omega) (by omega), w32_id (by omega) (by omega)]
    have hcell : 0 ≤ 20 * ptY dy Q + ptX dx Q ∧ 20 * ptY dy Q + ptX dx Q < 400 := by omega
    have hat := hov.at hcell hl
    refine T_ck (by rw [hg]; exact hcell) (T_if (fun hz => ?_) (fun hz => ?_))
    · have hnf := hat.mp hz
      have hok : ptOk dx dy Q := ⟨hin, by simpa [ovF] using hnf⟩
      refine T_ck (by rw [hg]; exact hcell) (T_ck (by rw [hg]; exact hcell) (T_vm' ?_))
      intro m3 e3
      have e32 : m3 p 2 = Q.2.2.1 := by rw [e3, ms_x (by omega)]; exact h2
      rw [e32]
      refine T_ck ⟨by omega, by omega⟩ (T_vm' ?_)
      intro m4 e4
      have e42 : m4 p 2 = Q.2.2.1 := by rw [e4, ms_x (by omega)]; exact e32
      rw [e42, w32_id (by omega) (by omega), w32_id (by omega) (by omega)]
      refine T_vm' ?_
      intro m5 e5
      refine T_vv (T_go ⟨⟨by simp only; omega, by simp only; omega⟩, ?_, ?_, ?_, ?_, ?_⟩ (by simp only; omega))
      · simp only [es]
        exact ptAll_s ha (by rw [hQ]; exact hok)
      · simp only [es, e1]
        refine ⟨?_, ?_, ?_, ?_⟩
        · rw [e5, ms_y (by decide), e4, ms_x (by omega), e3, ms_x (by omega)]; exact h4
        · rw [e5, ms_y (by decide), e4, ms_x (by omega), e3, ms_x (by omega)]; exact h5
        · rw [e5, ms_at]; rfl
        · intro j j0 j1
          have j1' : j < Q.2.2.1 + 1 := j1
          rw [e5, ms_x (by omega), e4]
          show _ = up Q.2.2.2 Q.2.2.1 (20 * ptY dy Q + ptX dx Q) j
          by_cases ej : j = Q.2.2.1
          · rw [ej, ms_at, up_at]
          · rw [ms_y ej, e3, ms_x (by omega), up_ne ej]; exact hc j j0 (by omega)
      · simp only [es, e1]
        refine OvB.set hov hcell hl ?_ (fun i c _ => ovF_s (by omega) i c)
        rw [e5, ms_f (by omega), e4, ms_f (by omega), e3]
      · intro a a1 a2 a3
        simp only
        rw [e5, ms_f a1, e4, ms_f a2, e3, ms_f a3]; exact hf a a1 a2 a3
      · intro b b1 b2 b3
        simp only
        rw [e5, ms_y b1, e4, ms_x (by omega), e3, ms_x (by omega)]; exact hb b b1 b2 b3
    · refine T_out (by decide) ⟨hf, hb, Or.inr ⟨Or.inr rfl, bad (fun h => hz (hat.mpr ?_))⟩⟩
      have := h.2
      simpa [ovF] using this
  · rw [if_neg hin]
    exact T_it rfl (T_out (by decide) ⟨hf, hb, Or.inr ⟨Or.inl rfl, bad (fun h => hin h.1)⟩⟩)
theorem tX5_go_loop {g : Shp} {m : Mem} {p ov dx dy n w : Int} {f : Nat → Int → Bool} {l : Nat} {q : Pt} (hl : l < 3) (ho : ov < p) (hg : gl g ov = 400) (hw : WPt q) (hn : 0 ≤ n ∧ n ≤ 12 ∧ q.2.2.1 ≤ 48) (hd : (-1 ≤ dx ∧ dx ≤ 1) ∧ -1 ≤ dy ∧ dy ≤ 1)
    (hp : PtC m p q) (hov : OvB m ov (ovF f l q)) : T (iter (eBX5_go_40 g p dx dy n ov (bShl 1 (l : Int)) w) 100000 (0, m)) (goQ m p ov dx dy n f l q) := by
  refine iter1 (goI m p ov dx dy n f l q) (fun k => (n - k).toNat) ⟨⟨by omega, by omega⟩, fun j hj => absurd hj (by simp), hp, hov, fun _ _ _ _ => rfl, fun _ _ _ _ => rfl⟩ (by omega) ?_
  rintro k m' ⟨hk, ha, ⟨c1, c2, c3, c4⟩, h5, h6, h7⟩
  have hq := ptGo_w hw k.toNat ha
  have en := ptGo_n (dx := dx) (dy := dy) (q := q) k.toNat
  unfold eBX5_go_40 ebX5_go_40
  simp only
  refine T_if (fun hc => T_out (by decide) ?_) (fun hc => T_if (fun hz => ?_) (fun hz => ?_))
  · have e : k = n := by omega
    subst e
    exact ⟨h6, h7, Or.inl ⟨rfl, ha, ⟨c1, c2, c3, c4⟩, h5⟩⟩
  · refine go_step hl ho hg hw ⟨by omega, by omega⟩ ⟨by omega, by omega⟩ ha ?_ ?_ c3 c4 h5 h6 h7
    · unfold ptX; rw [if_neg (by omega)]; exact c1
    · unfold ptY; rw [if_neg (by omega)]; exact c2
  · rw [c1, w32_id (by have := hq.1; omega) (by have := hq.1; omega)]
    refine T_vm' ?_
    intro m3 e3
    rw [show m3 p 5 = (ptGo dx dy k.toNat q).2.1 by rw [e3, ms_y (by decide)]; exact c2, w32_id (by have := hq.2; omega) (by have := hq.2; omega)]
    refine T_vm' ?_
    intro m4 e4
    refine go_step hl ho hg hw ⟨by omega, by omega⟩ ⟨by omega, by omega⟩ ha ?_ ?_ ?_ ?_ ?_ ?_ ?_
    · unfold ptX; rw [if_pos (by omega), e4, ms_y (by decide), e3, ms_at]
    · unfold ptY; rw [if_pos (by omega), e4, ms_at]
    · rw [e4, ms_y (by decide), e3, ms_y (by decide)]; exact c3
    · intro j j0 j1; rw [e4, ms_x (by omega), e3, ms_x (by omega)]; exact c4 j j0 j1
    · intro c a b; rw [e4, ms_x (by omega), e3, ms_x (by omega)]; exact h5 c a b
    · intro a a1 a2 a3; rw [e4, ms_f a1, e3, ms_f a1]; exact h6 a a1 a2 a3
    · intro b b1 b2 b3; rw [e4, ms_y b3, e3, ms_y b2]; exact h7 b b1 b2 b3
