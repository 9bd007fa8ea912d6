/-! ===== a line that is read: its cells, how many runs, whether the last went across, how long they are ===== -/
abbrev Ls : Type := Pt × Int × Int × (Int → Int)
def lsOk (dx dy w n : Int) (s : Ls) : Prop := s.2.1 < 5 ∧ ¬ (0 < s.2.1 ∧ w = s.2.2.1) ∧ ptAll dx dy n.toNat s.1
def lsGo (dx dy w n : Int) (s : Ls) : Ls := (ptGo dx dy n.toNat s.1, s.2.1 + 1, w, up s.2.2.2 s.2.1 n)
def WLs (s : Ls) : Prop := WPt s.1 ∧ (0 ≤ s.2.1 ∧ s.2.1 ≤ 5) ∧ (∀ j, 0 ≤ j → j < s.2.1 → 1 ≤ s.2.2.2 j ∧ s.2.2.2 j ≤ 12) ∧ rsum s.2.2.2 s.2.1.toNat = s.1.2.2.1 ∧ (∀ k, 0 ≤ k → k < s.1.2.2.1 → 0 ≤ s.1.2.2.2 k ∧ s.1.2.2.2 k < 400) ∧ ∀ k j, 0 ≤ k → k < j → j < s.1.2.2.1 → s.1.2.2.2 k ≠ s.1.2.2.2 j
def WCe (q : Pt) : Prop := (∀ k, 0 ≤ k → k < q.2.2.1 → 0 ≤ q.2.2.2 k ∧ q.2.2.2 k < 400) ∧ ∀ k j, 0 ≤ k → k < j → j < q.2.2.1 → q.2.2.2 k ≠ q.2.2.2 j
theorem WCe.nx {q : Pt} {dx dy : Int} (h : WCe q) (hn : 0 ≤ q.2.2.1) (ho : ptOk dx dy q) : WCe (ptNx dx dy q) := by
  obtain ⟨h1, h2⟩ := h
  have hno : ∀ k, 0 ≤ k → k < q.2.2.1 → q.2.2.2 k ≠ 20 * ptY dy q + ptX dx q := by
    intro k a b e
    have := ho.2
    rw [← Bool.not_eq_true, onC_iff] at this
    exact this ⟨k, a, b, e⟩
  have hb := ho.1
  unfold ptNx
  refine ⟨fun k a b => ?_, fun k j a b c => ?_⟩
  · dsimp only at b ⊢
    by_cases e : k = q.2.2.1
    · rw [e, up_at]; omega
    · rw [up_ne e]; exact h1 k a (by omega)
  · dsimp only at c ⊢
    rw [up_ne (show k ≠ q.2.2.1 by omega)]
    by_cases e : j = q.2.2.1
    · rw [e, up_at]; exact hno k a (by omega)
    · rw [up_ne e]; exact h2 k j a b (by omega)
theorem WCe.go {q : Pt} {dx dy : Int} (h : WCe q) (hn : 0 ≤ q.2.2.1) : ∀ n : Nat, ptAll dx dy n q → WCe (ptGo dx dy n q)
  | 0, _ => h
  | n + 1, ha => WCe.nx (WCe.go h hn n (fun j hj => ha j (by omega))) (by rw [ptGo_n]; omega) (ha n (by omega))
theorem rsum_up {f : Int → Int} {r v : Int} {k : Nat} (h : (k : Int) ≤ r) : rsum (up f r v) k = rsum f k := rsum_c k (fun j _ b => up_ne (by omega))
theorem WLs.n {s : Ls} (h : WLs s) : 0 ≤ s.1.2.2.1 ∧ s.1.2.2.1 ≤ 12 * s.2.1 ∧ s.2.1 ≤ s.1.2.2.1 := by
  obtain ⟨h1, h2, h3, h4, _⟩ := h
  have a := rsum_le (f := s.2.2.2) (c := 12) s.2.1.toNat (fun r a b => (h3 r a (by omega)).2)
  have b := rsum_n (f := s.2.2.2) s.2.1.toNat (fun r a b => (h3 r a (by omega)).1)
  rw [h4] at a b
  exact ⟨h1.2.2, by omega, by omega⟩
theorem WLs.go {s : Ls} {dx dy w n : Int} (h : WLs s) (hn : 1 ≤ n ∧ n ≤ 12) (ho : lsOk dx dy w n s) : WLs (lsGo dx dy w n s) := by
  have hb := h.n
  obtain ⟨h1, h2, h3, h4, h5, h6⟩ := h
  obtain ⟨o1, o2, o3⟩ := ho
  have hc := WCe.go ⟨h5, h6⟩ h1.2.2 n.toNat o3
  unfold lsGo
  refine ⟨ptGo_w h1 n.toNat o3, by dsimp only; omega, fun j a b => ?_, ?_, hc.1, hc.2⟩
  · dsimp only at b ⊢
    by_cases e : j = s.2.1
    · rw [e, up_at]; exact hn
    · rw [up_ne e]; exact h3 j a (by omega)
  · dsimp only
    rw [rsum_s h2.1, up_at, rsum_up (by omega), h4, ptGo_n]
    omega
def LsC (m : Mem) (p : Int) (s : Ls) : Prop := PtC m p s.1 ∧ m p 3 = s.2.1 ∧ (0 < s.2.1 → m p 6 = s.2.2.1) ∧ ∀ j, 0 ≤ j → j < s.2.1 → m (p + 2) j = rsum s.2.2.2 (j.toNat + 1) - 1
theorem tX5_go {g : Shp} {m : Mem} {p ov dx dy n : Int} {f : Nat → Int → Bool} {l : Nat} {s : Ls} (w : Int) (hl : l < 3) (ho : ov < p) (hg : gl g ov = 400) (hw : WLs s) (hn : 1 ≤ n ∧ n ≤ 12) (hd : (-1 ≤ dx ∧ dx ≤ 1) ∧ -1 ≤ dy ∧ dy ≤ 1) (hx : w = if dx = 0 then 0 else 1)
    (hp : LsC m p s) (hov : OvB m ov (ovF f l s.1)) : T (eX5_go g p dx dy n ov (bShl 1 (l : Int)) m) (fun q => (∀ a, a ≠ p → a ≠ p + 1 → a ≠ p + 2 → a ≠ ov → q.2 a = m a)
      ∧ ((q.1 = 1 ∧ lsOk dx dy w n s ∧ LsC q.2 p (lsGo dx dy w n s) ∧ OvB q.2 ov (ovF f l (lsGo dx dy w n s).1)) ∨ q.1 = 0 ∧ ¬ lsOk dx dy w n s)) := by
  have hb := hw.n
  obtain ⟨hp1, hp2, hp3, hp4⟩ := hp
  have hr := hw.2.1
  have no : ¬ lsOk dx dy w n s → T (ebX5_go_35 g m) (fun q => (∀ a, a ≠ p → a ≠ p + 1 → a ≠ p + 2 → a ≠ ov → q.2 a = m a)
      ∧ ((q.1 = 1 ∧ lsOk dx dy w n s ∧ LsC q.2 p (lsGo dx dy w n s) ∧ OvB q.2 ov (ovF f l (lsGo dx dy w n s).1)) ∨ q.1 = 0 ∧ ¬ lsOk dx dy w n s)) := fun h => T_some ⟨fun _ _ _ _ _ => rfl, Or.inr ⟨rfl, h⟩⟩
  have yes : s.2.1 < 5 → ¬ (0 < s.2.1 ∧ w = s.2.2.1) → T (ebX5_go_37 g p dx dy n ov (bShl 1 (l : Int)) w m) (fun q => (∀ a, a ≠ p → a ≠ p + 1 → a ≠ p + 2 → a ≠ ov → q.2 a = m a)
      ∧ ((q.1 = 1 ∧ lsOk dx dy w n s ∧ LsC q.2 p (lsGo dx dy w n s) ∧ OvB q.2 ov (ovF f l (lsGo dx dy w n s).1)) ∨ q.1 = 0 ∧ ¬ lsOk dx dy w n s)) := by
    intro h5 hnw
    unfold ebX5_go_37
    refine T_bdl (tX5_go_loop hl ho hg hw.1 ⟨by omega, by omega, by omega⟩ hd hp1 hov) ?_
    rintro c ⟨k, m1⟩ ⟨h1, h2, h3⟩
    dsimp only at h1 h2 h3 ⊢
    rcases h3 with ⟨e, ha, hc, hv⟩ | ⟨e, ha⟩
    · subst e
      refine T_ie (by decide) (T_ie (by decide) ?_)
      unfold ebX5_go_162
      have e3 : m1 p 3 = s.2.1 := by rw [h2 3 (by decide) (by decide) (by decide)]; exact hp2
      refine T_ck (by rw [hx]; split <;> decide) (T_vm' ?_)
      intro m2 e2
      rw [show m2 p 3 = s.2.1 by rw [e2, ms_y (by decide)]; exact e3, show m2 p 2 = s.1.2.2.1 + n by rw [e2, ms_y (by decide), hc.2.2.1, ptGo_n]; omega]
      rw [w32_id (by omega) (by omega)]
      refine T_ck ⟨by omega, by omega⟩ (T_vm' ?_)
      intro m3 e3'
      rw [show m3 p 3 = s.2.1 by rw [e3', ms_x (by omega), e2, ms_y (by decide)]; exact e3, w32_id (by omega) (by omega)]
      refine T_vm' ?_
      intro m4 e4
      refine T_some ⟨fun a a1 a2 a3 a4 => ?_, Or.inl ⟨rfl, ⟨h5, hnw, ha⟩, ⟨⟨?_, ?_, ?_, ?_⟩, ?_, ?_, ?_⟩, ?_⟩⟩
      · dsimp only
        rw [e4, ms_f a1, e3', ms_f a3, e2, ms_f a1]; exact h1 a a1 a2 a4
      · dsimp only
        rw [e4, ms_y (by decide), e3', ms_x (by omega), e2, ms_y (by decide)]; exact hc.1
      · dsimp only
        rw [e4, ms_y (by decide), e3', ms_x (by omega), e2, ms_y (by decide)]; exact hc.2.1
      · dsimp only
        rw [e4, ms_y (by decide), e3', ms_x (by omega), e2, ms_y (by decide)]; exact hc.2.2.1
      · intro k k0 k1
        dsimp only
        rw [e4, ms_x (by omega), e3', ms_x (by omega), e2, ms_x (by omega)]; exact hc.2.2.2 k k0 k1
      · dsimp only
        rw [e4, ms_at]; rfl
      · intro _
        dsimp only
        rw [e4, ms_y (by decide), e3', ms_x (by omega), e2, ms_at]; rfl
      · intro j j0 j1
        have j1' : j < s.2.1 + 1 := j1
        show m4 (p + 2) j = rsum (up s.2.2.2 s.2.1 n) (j.toNat + 1) - 1
        rw [e4, ms_x (by omega), e3']
        by_cases e : j = s.2.1
        · rw [e, ms_at, show s.2.1.toNat + 1 = (s.2.1 + 1).toNat by omega, rsum_s hr.1, up_at, rsum_up (by omega), hw.2.2.2.1]
        · rw [ms_y e, e2, ms_x (by omega), h1 (p + 2) (by omega) (by omega) (by omega), rsum_up (by omega)]
          exact hp4 j j0 (by omega)
      · dsimp only
        intro c' a b
        rw [e4, ms_x (by omega), e3', ms_x (by omega), e2, ms_x (by omega)]; exact hv c' a b
    · have fin : T (some ((0 : Int), m1)) (fun q => (∀ a, a ≠ p → a ≠ p + 1 → a ≠ p + 2 → a ≠ ov → q.2 a = m a)
        ∧ ((q.1 = 1 ∧ lsOk dx dy w n s ∧ LsC q.2 p (lsGo dx dy w n s) ∧ OvB q.2 ov (ovF f l (lsGo dx dy w n s).1)) ∨ q.1 = 0 ∧ ¬ lsOk dx dy w n s)) := T_some ⟨fun a a1 a2 a3 a4 => h1 a a1 a2 a4, Or.inr ⟨rfl, fun h => ha h.2.2⟩⟩
      rcases e with e | e
      · subst e; exact T_it rfl fin
      · subst e; exact T_ie (by decide) (T_it rfl fin)
  have mid : T (ebX5_go_9 g p dx dy n ov (bShl 1 (l : Int)) w m) (fun q => (∀ a, a ≠ p → a ≠ p + 1 → a ≠ p + 2 → a ≠ ov → q.2 a = m a)
      ∧ ((q.1 = 1 ∧ lsOk dx dy w n s ∧ LsC q.2 p (lsGo dx dy w n s) ∧ OvB q.2 ov (ovF f l (lsGo dx dy w n s).1)) ∨ q.1 = 0 ∧ ¬ lsOk dx dy w n s)) := by
    unfold ebX5_go_9
    rw [hp2]
    refine T_if (fun h => no (fun q => by have := q.1; omega)) (fun h => T_if (fun h2 => yes (by omega) (by omega)) (fun h2 => ?_))
    rw [hp3 (by omega)]
    exact T_if (fun h3 => no (fun q => q.2.1 ⟨by omega, h3⟩)) (fun h3 => yes (by omega) (fun q => h3 q.2))
  unfold eX5_go ebX5_go_0
  refine T_if (fun h => ?_) (fun h => ?_)
  · rw [if_pos h] at hx; subst hx; exact mid
  · rw [if_neg h] at hx; subst hx; exact mid
