/-! ===== pieces: how many, how long, whether a bend is behind, and the row that is uncovered ===== -/
abbrev Pc : Type := Int × (Int → Int) × (Int → Int) × Int
def pcEnd (q : Pc) (b : Int) : Pc := if 0 < q.2.2.2 then (q.1 + 1, up q.2.1 q.1 q.2.2.2, up q.2.2.1 q.1 b, q.2.2.2) else q
def pcZ (q : Pc) : Pc := (q.1, q.2.1, q.2.2.1, 0)
def pcCell (R : Int → Int) (c : Int) (q : Pc) : Pc := if R (33 + c) = -4 then (q.1, q.2.1, q.2.2.1, q.2.2.2 + 1) else pcZ (pcEnd q 0)
def pcCells (R ce : Int → Int) (k : Int) : Nat → Pc → Pc
  | 0, q => q
  | n + 1, q => pcCell R (ce (k + n)) (pcCells R ce k n q)
def pcRuns (R ce rl : Int → Int) (runs : Int) : Nat → Pc
  | 0 => (0, fun _ => 0, fun _ => 0, 0)
  | r + 1 => pcEnd (pcCells R ce (rsum rl r) (rl r).toNat (pcZ (pcRuns R ce rl runs r))) (if (r : Int) + 1 < runs then 1 else 0)
def pcOf (d : Dt) (R : Int → Int) (i : Int) : Pc := pcRuns R (dc d i) (dg d i) (dr d i) (dr d i).toNat
/-- sound pieces that have taken no more than u cells, no more than 12 of them in the uncovered row -/
def WPc (q : Pc) (u : Int) : Prop := 0 ≤ q.1 ∧ (0 ≤ q.2.2.2 ∧ q.2.2.2 ≤ 12) ∧ rsum q.2.1 q.1.toNat + q.2.2.2 ≤ u ∧ (∀ p, 0 ≤ p → p < q.1 → 1 ≤ q.2.1 p ∧ q.2.1 p ≤ 12) ∧ ∀ p, 0 ≤ p → p < q.1 → q.2.2.1 p = 0 ∨ q.2.2.1 p = 1
theorem rsum_n {f : Int → Int} : ∀ n : Nat, (∀ r : Int, 0 ≤ r → r < n → 1 ≤ f r) → (n : Int) ≤ rsum f n
  | 0, _ => by simp [rsum]
  | n + 1, h => by
    have h1 := rsum_n n (fun r a b => h r a (by omega))
    have h2 := h n (by omega) (by omega)
    unfold rsum
    omega
theorem WPc.n {q : Pc} {u : Int} (h : WPc q u) : q.1 ≤ u ∧ q.1 + q.2.2.2 ≤ u := by
  have := rsum_n (f := q.2.1) q.1.toNat (fun r a b => (h.2.2.2.1 r a (by omega)).1)
  have h1 := h.1
  have h2 := h.2.1
  have h3 := h.2.2.1
  omega
theorem WPc.end {q : Pc} {u b : Int} (h : WPc q u) (hb : b = 0 ∨ b = 1) : WPc (pcZ (pcEnd q b)) u := by
  obtain ⟨h1, h2, h3, h4, h5⟩ := h
  unfold pcZ pcEnd
  by_cases c : 0 < q.2.2.2
  · rw [if_pos c]
    refine ⟨by simp only; omega, by simp only; omega, ?_, fun p a b' => ?_, fun p a b' => ?_⟩
    · simp only
      rw [rsum_s h1, rsum_c (f' := q.2.1) q.1.toNat (fun r a b => up_ne (by omega)), up_at]
      omega
    · simp only at b' ⊢
      by_cases e : p = q.1
      · rw [e, up_at]; omega
      · rw [up_ne e]; exact h4 p a (by omega)
    · simp only at b' ⊢
      by_cases e : p = q.1
      · rw [e, up_at]; exact hb
      · rw [up_ne e]; exact h5 p a (by omega)
  · rw [if_neg c]
    exact ⟨h1, by simp only; omega, by simp only; omega, h4, h5⟩
theorem WPc.cell {q : Pc} {u : Int} {R : Int → Int} {c : Int} (h : WPc q u) (ho : q.2.2.2 < 12) : WPc (pcCell R c q) (u + 1) := by
  unfold pcCell
  by_cases e : R (33 + c) = -4
  · rw [if_pos e]
    obtain ⟨h1, h2, h3, h4, h5⟩ := h
    exact ⟨h1, by simp only; omega, by simp only; omega, h4, h5⟩
  · rw [if_neg e]
    obtain ⟨h1, h2, h3, h4, h5⟩ := h.end (Or.inl rfl)
    exact ⟨h1, h2, by omega, h4, h5⟩
theorem WPc.cells {q : Pc} {u : Int} {R ce : Int → Int} {k : Int} (h : WPc q u) (ho : q.2.2.2 = 0) : ∀ n : Nat, n ≤ 12 → WPc (pcCells R ce k n q) (u + n) ∧ (pcCells R ce k n q).2.2.2 ≤ n
  | 0, _ => ⟨by simpa [pcCells] using h, by simp only [pcCells]; omega⟩
  | n + 1, hn => by
    have ih := WPc.cells (R := R) (ce := ce) (k := k) h ho n (by omega)
    have h1 := ih.1.cell (R := R) (c := ce (k + n)) (by omega)
    refine ⟨?_, ?_⟩
    · rw [show u + ((n + 1 : Nat) : Int) = u + n + 1 by omega]
      exact h1
    · have h2 := ih.2
      have h3 := ih.1.2.1
      show (pcCell R (ce (k + n)) (pcCells R ce k n q)).2.2.2 ≤ _
      unfold pcCell
      by_cases e : R (33 + ce (k + n)) = -4
      · rw [if_pos e]; simp only; omega
      · rw [if_neg e]; unfold pcZ; simp only; omega
theorem WPc.z {q : Pc} {u : Int} (h : WPc q u) : WPc (pcZ q) u := by
  obtain ⟨h1, h2, h3, h4, h5⟩ := h
  exact ⟨h1, by unfold pcZ; simp only; omega, by unfold pcZ; simp only; omega, h4, h5⟩
theorem WPc.runs {d : Dt} {i : Int} (hw : WLine d i) (R : Int → Int) : ∀ r : Nat, (r : Int) ≤ dr d i → WPc (pcZ (pcRuns R (dc d i) (dg d i) (dr d i) r)) (rsum (dg d i) r)
  | 0, _ => ⟨by show (0 : Int) ≤ 0; decide, by show (0 : Int) ≤ 0 ∧ (0 : Int) ≤ 12; decide, by simp [pcZ, pcRuns, rsum], fun p a b => by simp [pcZ, pcRuns] at b; omega, fun p a b => by simp [pcZ, pcRuns] at b; omega⟩
  | r + 1, hr => by
    have ih := WPc.runs hw R r (by omega)
    have hl := hw.2.1 r (by omega) (by omega)
    have h1 := (ih.cells (R := R) (ce := dc d i) (k := rsum (dg d i) r) rfl (dg d i r).toNat (by omega)).1
    have h2 := h1.end (b := if (r : Int) + 1 < dr d i then 1 else 0) (by split <;> simp)
    show WPc (pcZ (pcEnd _ _)) (rsum (dg d i) r + dg d i r)
    rw [show rsum (dg d i) r + ((dg d i r).toNat : Int) = rsum (dg d i) r + dg d i r by omega] at h2
    exact h2
theorem WPc.of {d : Dt} {i : Int} (hw : WLine d i) (R : Int → Int) : WPc (pcZ (pcOf d R i)) (dn d i) := by
  have h := WPc.runs hw R (dr d i).toNat (by have := hw.1; omega)
  rw [hw.2.2.1] at h
  exact h
/-- the program's pieces in its rows, and the reference's -/
def PcC (m : Mem) (q : Pc) : Prop := m 6 2 = q.1 ∧ ∀ p, 0 ≤ p → p < q.1 → m 7 p = q.2.1 p ∧ m 8 p = q.2.2.1 p
def PcR (m : Mem) (q : Pc) : Prop := m 241 27 = q.1 ∧ ∀ p, 0 ≤ p → p < q.1 → m 257 p = q.2.1 p ∧ m 258 p = q.2.2.1 p
theorem pcEnd_z {q : Pc} {b : Int} (h : q.2.2.2 ≤ 0) : pcEnd q b = q := by unfold pcEnd; rw [if_neg (by omega)]
theorem tX6_add {g : Shp} {m : Mem} {q : Pc} {o b : Int} (h : PcC m q) (ho : o = q.2.2.2) (hn : 0 ≤ q.1 ∧ (0 < o → q.1 < 60)) (ho2 : o ≤ 12) (hb : b = 0 ∨ b = 1) :
    T (eX6_add g o b m) (fun p => PcC p.2 (pcEnd q b) ∧ ∀ a, (a < 6 ∨ 8 < a) → p.2 a = m a) := by
  obtain ⟨h1, h2⟩ := h
  unfold eX6_add ebX6_add_0
  refine T_if (fun hc => T_some ?_) (fun hc => T_ie (by rw [h1]; have := hn.2 (by omega); omega) ?_)
  · rw [pcEnd_z (by omega)]
    exact ⟨⟨h1, h2⟩, fun _ _ => rfl⟩
  · have h60 := hn.2 (by omega)
    refine T_ck ⟨by omega, by omega⟩ (T_vm' ?_)
    intro m1 e1
    have e6 : m1 6 = m 6 := by rw [e1, ms_f (by decide)]
    rw [e6, h1]
    refine T_ck ⟨by omega, by omega⟩ (T_ck hb (T_vm' ?_))
    intro m2 e2
    have e62 : m2 6 = m 6 := by rw [e2, ms_f (by decide), e6]
    rw [e62, h1, w32_id (by omega) (by omega)]
    refine T_vm (T_some ⟨?_, fun a ha => ?_⟩)
    · unfold pcEnd
      rw [if_pos (by omega)]
      refine ⟨by simp only [ms_at], fun p a b' => ?_⟩
      simp only at b' ⊢
      rw [ms_x (by decide), ms_x (by decide)]
      by_cases e : p = q.1
      · rw [e, up_at, up_at, e2, ms_x (by decide), ms_at, e1, h1, ms_at]
        exact ⟨ho, rfl⟩
      · rw [up_ne e, up_ne e, e2, ms_x (by decide), ms_y e, e1, h1, ms_y e, ms_x (by decide)]
        exact h2 p a (by omega)
    · simp only
      rw [ms_f (by omega), e2, ms_f (by omega), e1, ms_f (by omega)]
theorem tX11_endPiece {g : Shp} {m : Mem} {q : Pc} {o b : Int} (h : PcR m q) (ho : o = q.2.2.2) (hn : 0 ≤ q.1 ∧ (0 < o → q.1 < 60)) (ho2 : o ≤ 12) (hb : b = 0 ∨ b = 1) :
    T (eX11_endPiece g o b m) (fun p => PcR p.2 (pcEnd q b) ∧ (∀ j, j ≠ 27 → p.2 241 j = m 241 j) ∧ ∀ a, a ≠ 241 → a ≠ 257 → a ≠ 258 → p.2 a = m a) := by
  obtain ⟨h1, h2⟩ := h
  unfold eX11_endPiece ebX11_endPiece_0
  refine T_if (fun hc => T_some ?_) (fun hc => ?_)
  · rw [pcEnd_z (by omega)]
    exact ⟨⟨h1, h2⟩, fun _ _ => rfl, fun _ _ _ _ => rfl⟩
  · have h60 := hn.2 (by omega)
    refine T_ck ⟨by omega, by omega⟩ (T_vm' ?_)
    intro m1 e1
    have e6 : m1 241 = m 241 := by rw [e1, ms_f (by decide)]
    rw [e6, h1]
    refine T_ck ⟨by omega, by omega⟩ (T_ck hb (T_vm' ?_))
    intro m2 e2
    have e62 : m2 241 = m 241 := by rw [e2, ms_f (by decide), e6]
    rw [e62, h1, w32_id (by omega) (by omega)]
    refine T_vm (T_some ⟨?_, fun j hj => ?_, fun a ha hb hc => ?_⟩)
    · unfold pcEnd
      rw [if_pos (by omega)]
      refine ⟨by simp only [ms_at], fun p a b' => ?_⟩
      simp only at b' ⊢
      rw [ms_x (by decide), ms_x (by decide)]
      by_cases e : p = q.1
      · rw [e, up_at, up_at, e2, ms_x (by decide), ms_at, e1, h1, ms_at]
        exact ⟨ho, rfl⟩
      · rw [up_ne e, up_ne e, e2, ms_x (by decide), ms_y e, e1, h1, ms_y e, ms_x (by decide)]
        exact h2 p a (by omega)
    · simp only
      rw [ms_y hj, e62]
    · simp only
      rw [ms_f ha, e2, ms_f hc, e1, ms_f hb]
