/-! ===== both sides hold what was told ===== -/
/-- two tellings that agree -/
def DEq (d d' : Dt) : Prop := dl d = dl d' ∧ (∀ k, 0 ≤ k → k < 3 → dz d k = dz d' k) ∧ ∀ i, 0 ≤ i → i < dl d' → dr d i = dr d' i ∧ dn d i = dn d' i ∧ (∀ r, 0 ≤ r → r < dr d' i → dg d i r = dg d' i r) ∧ ∀ k, 0 ≤ k → k < dn d' i → dc d i k = dc d' i k
theorem DEq.wl {d d' : Dt} (h : DEq d d') {i : Int} (hi : 0 ≤ i ∧ i < dl d') (hw : WLine d' i) : WLine d i := by
  obtain ⟨h1, h2, h3, h4, h5⟩ := hw
  obtain ⟨e1, e2, e3, e4⟩ := h.2.2 i hi.1 hi.2
  unfold WLine
  rw [e1, e2]
  refine ⟨h1, fun r a b => by rw [e3 r a b]; exact h2 r a b, ?_, fun k a b => by rw [e4 k a b]; exact h4 k a b, fun k j a b c => by rw [e4 k a (by omega), e4 j (by omega) c]; exact h5 k j a b c⟩
  rw [rsum_c _ (fun r a b => e3 r a (by omega))]
  exact h3
theorem DEq.ipl {m : Mem} {P : Int} {d d' : Dt} (h : DEq d d') (hw : ∀ i, 0 ≤ i → i < dl d' → WLine d' i) (hp : IPl m P d') : IPl m P d := by
  obtain ⟨h1, h2, h3, h4⟩ := hp
  refine ⟨fun k a b => by rw [h.2.1 k a b]; exact h1 k a b, by rw [h.1]; exact h2, fun i a b => ?_, fun c a b => ?_⟩
  · rw [h.1] at b
    obtain ⟨e1, e2, e3, e4⟩ := h.2.2 i a b
    obtain ⟨q1, q2, q3, q4⟩ := h3 i a b
    refine ⟨by rw [e2]; exact q1, by rw [e1]; exact q2, fun k k0 k1 => by rw [e2] at k1; rw [e4 k k0 k1]; exact q3 k k0 k1, fun r r0 r1 => ?_⟩
    rw [e1] at r1
    rw [rsum_c _ (fun r' a' b' => e3 r' a' (by omega))]
    exact q4 r r0 r1
  · obtain ⟨o, o1, o2, o3⟩ := h4 c a b
    refine ⟨o, o1, o2, fun i hi => ?_⟩
    rw [o3 i hi, h.1]
    constructor
    · rintro ⟨u, k, k0, k1, k2⟩
      obtain ⟨e1, e2, e3, e4⟩ := h.2.2 i (by omega) u
      exact ⟨u, k, k0, by rw [e2]; exact k1, by rw [e4 k k0 k1]; exact k2⟩
    · rintro ⟨u, k, k0, k1, k2⟩
      obtain ⟨e1, e2, e3, e4⟩ := h.2.2 i (by omega) u
      rw [e2] at k1
      exact ⟨u, k, k0, k1, by rw [← e4 k k0 k1]; exact k2⟩
/-- what is told is sound -/
def WSt (S : St) : Prop := (0 ≤ dl S.1 ∧ dl S.1 ≤ 3) ∧ (1 ≤ dz S.1 0 ∧ dz S.1 0 < dz S.1 1 ∧ dz S.1 1 < dz S.1 2 ∧ dz S.1 2 ≤ 9) ∧ (∀ i, 0 ≤ i → i < dl S.1 → WLine S.1 i) ∧ (0 ≤ S.2.1 ∧ S.2.1 ≤ 2) ∧ ∀ k, 0 ≤ k → k < 9 → 0 ≤ S.2.2 k ∧ S.2.2 k ≤ 6
theorem addL_l (d : Dt) (s : Ls) : dl (addL d s) = dl d + 1 := rfl
theorem addL_z (d : Dt) (s : Ls) : dz (addL d s) = dz d := rfl
theorem addL_o {d : Dt} {s : Ls} {i : Int} (hi : 0 ≤ i ∧ i < dl d) : dr (addL d s) i = dr d i ∧ dn (addL d s) i = dn d i ∧ (∀ r, 0 ≤ r → r < 5 → dg (addL d s) i r = dg d i r) ∧ ∀ k, 0 ≤ k → k < 60 → dc (addL d s) i k = dc d i k := by
  refine ⟨up_ne (by omega), up_ne (by omega), fun r a b => ?_, fun k a b => ?_⟩
  · show (if 5 * dl d ≤ 5 * i + r ∧ 5 * i + r < 5 * dl d + 5 then _ else _) = _
    rw [if_neg (by omega)]; rfl
  · show (if 60 * dl d ≤ 60 * i + k ∧ 60 * i + k < 60 * dl d + 60 then _ else _) = _
    rw [if_neg (by omega)]; rfl
theorem addL_n {d : Dt} {s : Ls} : dr (addL d s) (dl d) = s.2.1 ∧ dn (addL d s) (dl d) = s.1.2.2.1 ∧ (∀ r, 0 ≤ r → r < 5 → dg (addL d s) (dl d) r = s.2.2.2 r) ∧ ∀ k, 0 ≤ k → k < 60 → dc (addL d s) (dl d) k = s.1.2.2.2 k := by
  refine ⟨up_at _ _ _, up_at _ _ _, fun r a b => ?_, fun k a b => ?_⟩
  · show (if 5 * dl d ≤ 5 * dl d + r ∧ 5 * dl d + r < 5 * dl d + 5 then _ else _) = _
    rw [if_pos (by omega), show 5 * dl d + r - 5 * dl d = r by omega]
  · show (if 60 * dl d ≤ 60 * dl d + k ∧ 60 * dl d + k < 60 * dl d + 60 then _ else _) = _
    rw [if_pos (by omega), show 60 * dl d + k - 60 * dl d = k by omega]
theorem addL_w {d : Dt} {s : Ls} (hw : WLs s) (h1 : 1 ≤ s.2.1) : WLine (addL d s) (dl d) := by
  have hn := hw.n
  obtain ⟨w1, w2, w3, w4, w5, w6⟩ := hw
  obtain ⟨e1, e2, e3, e4⟩ := addL_n (d := d) (s := s)
  unfold WLine
  rw [e1, e2]
  refine ⟨⟨h1, w2.2⟩, fun r a b => by rw [e3 r a (by omega)]; exact w3 r a b, ?_, fun k a b => by rw [e4 k a (by omega)]; exact w5 k a b, fun k j a b c => by rw [e4 k a (by omega), e4 j (by omega) (by omega)]; exact w6 k j a b c⟩
  rw [rsum_c _ (fun r a b => e3 r a (by omega))]
  exact w4
theorem addL_wo {d : Dt} {s : Ls} {i : Int} (hi : 0 ≤ i ∧ i < dl d) (hw : WLine d i) : WLine (addL d s) i := by
  have hm := hw.mx
  obtain ⟨h1, h2, h3, h4, h5⟩ := hw
  obtain ⟨e1, e2, e3, e4⟩ := addL_o (s := s) hi
  unfold WLine
  rw [e1, e2]
  refine ⟨h1, fun r a b => by rw [e3 r a (by omega)]; exact h2 r a b, ?_, fun k a b => by rw [e4 k a (by omega)]; exact h4 k a b, fun k j a b c => by rw [e4 k a (by omega), e4 j (by omega) (by omega)]; exact h5 k j a b c⟩
  rw [rsum_c _ (fun r a b => e3 r a (by omega))]
  exact h3
/-- the program's plan at P holds it -/
def CI (m : Mem) (P : Int) (S : St) : Prop := IPl m P S.1 ∧ m P 4 = S.2.1 ∧ ∀ k, 0 ≤ k → k < 9 → m (P + 2) k = S.2.2 k
def dtR (m : Mem) : Dt := (m 241 10, m 246, m 248, m 249, m 250, m 251)
/-- the reference holds it -/
def RI (m : Mem) (S : St) : Prop := DEq (dtR m) S.1 ∧ m 241 8 = S.2.1 ∧ ∀ k, 0 ≤ k → k < 9 → m 247 k = S.2.2 k
def fD (d : Dt) : Nat → Int → Bool := fun i c => decide ((i : Int) < dl d) && onC (dn d i) (dc d i) c
theorem IPl.ov {m : Mem} {P : Int} {d : Dt} (h : IPl m P d) : OvB m (P + 4) (fD d) := by
  intro c a b
  obtain ⟨o, o1, o2, o3⟩ := h.2.2.2 c a b
  refine ⟨o, o1, o2, fun i hi => ?_⟩
  rw [Bool.eq_iff_iff, o3 i hi]
  unfold fD
  rw [Bool.and_eq_true, decide_eq_true_iff, onC_iff]
theorem ov_IPl {m : Mem} {r : Int} {d : Dt} (h : OvB m r (fD d)) : ∀ c, 0 ≤ c → c < 400 → ∃ o : Nat, o < 8 ∧ m r c = o ∧ ∀ i : Nat, i < 3 → (o.testBit i = true ↔ ((i : Int) < dl d ∧ ∃ k, 0 ≤ k ∧ k < dn d i ∧ dc d i k = c)) := by
  intro c a b
  obtain ⟨o, o1, o2, o3⟩ := h c a b
  refine ⟨o, o1, o2, fun i hi => ?_⟩
  rw [o3 i hi]
  unfold fD
  rw [Bool.and_eq_true, decide_eq_true_iff, onC_iff]
theorem onC_c {n : Int} {ce ce' : Int → Int} {c : Int} (h : ∀ k, 0 ≤ k → k < n → ce k = ce' k) : onC n ce c = onC n ce' c := by
  rw [Bool.eq_iff_iff, onC_iff, onC_iff]
  constructor
  · rintro ⟨k, a, b, e⟩; exact ⟨k, a, b, by rw [← h k a b]; exact e⟩
  · rintro ⟨k, a, b, e⟩; exact ⟨k, a, b, by rw [h k a b]; exact e⟩
theorem fD_add {d : Dt} {s : Ls} {l : Nat} (hl : dl d = l) (hs : 0 ≤ s.1.2.2.1 ∧ s.1.2.2.1 ≤ 60) (hw : ∀ i, 0 ≤ i → i < dl d → WLine d i) : fD (addL d s) = ovF (fD d) l s.1 := by
  funext i c
  unfold fD ovF
  rw [addL_l]
  by_cases e : i = l
  · subst e
    rw [if_pos rfl, decide_eq_true (by omega), Bool.true_and, ← hl]
    obtain ⟨e1, e2, e3, e4⟩ := addL_n (d := d) (s := s)
    rw [e2]
    exact onC_c (fun k a b => e4 k a (by omega))
  · rw [if_neg e]
    by_cases q : (i : Int) < dl d
    · obtain ⟨e1, e2, e3, e4⟩ := addL_o (s := s) (d := d) (i := i) ⟨by omega, q⟩
      have hm := (hw i (by omega) q).mx
      show (decide ((i : Int) < dl d + 1) && onC (dn (addL d s) i) (dc (addL d s) i) c) = (decide ((i : Int) < dl d) && onC (dn d i) (dc d i) c)
      rw [decide_eq_true q, decide_eq_true (show (i : Int) < dl d + 1 by omega), e2, onC_c (fun k a b => e4 k a (by omega))]
    · show (decide ((i : Int) < dl d + 1) && onC (dn (addL d s) i) (dc (addL d s) i) c) = (decide ((i : Int) < dl d) && onC (dn d i) (dc d i) c)
      rw [decide_eq_false q, decide_eq_false (show ¬ (i : Int) < dl d + 1 by omega), Bool.false_and, Bool.false_and]
/-- the program's item -/
theorem ci_step {m m' : Mem} {P : Int} {t : Int → Int} {n a : Int} {S : St} {l : Nat} (hP : 4 < P) (hl : dl S.1 = l) (hw : WSt S) (hc : CI m P S) (h : itC m P t n a l (fD S.1) m') : ∃ a' S', itN t n a S = some (a', S') ∧ m' 2 2 = a' ∧ CI m' P S' ∧ WSt S' := by
  obtain ⟨w1, w2, w3, w4, w5⟩ := hw
  obtain ⟨⟨c1, c2, c3, c4⟩, c5, c6⟩ := hc
  rcases h with ⟨h1, h2, h3, h4, h5⟩ | ⟨h1, h2, h3, h4, h5, h6⟩ | ⟨h1, h2, h3, h4, h5⟩ | ⟨h1, h2, a', s, h3, h4, h5, h6, h6', h7, h8, h9, h10, h11⟩
  · refine ⟨_, _, itN_z h1 h2, h3, ⟨⟨h4, ?_, fun i a b => ?_, fun c a b => ?_⟩, ?_, fun k a b => ?_⟩, w1, ?_, w3, w4, w5⟩
    · rw [h5 P (by omega) (by omega) (by omega)]; exact c2
    · have b : i < dl S.1 := b
      rw [h5 (P + 5 + 3 * i) (by omega) (by omega) (by omega), h5 (P + 5 + 3 * i + 1) (by omega) (by omega) (by omega), h5 (P + 5 + 3 * i + 2) (by omega) (by omega) (by omega)]
      exact c3 i a b
    · rw [h5 (P + 4) (by omega) (by omega) (by omega)]; exact c4 c a b
    · rw [h5 P (by omega) (by omega) (by omega)]; exact c5
    · rw [h5 (P + 2) (by omega) (by omega) (by omega)]; exact c6 k a b
    · exact ⟨(h2.1.1 0 (by decide)).2.1, h2.1.2.1, h2.1.2.2, (h2.1.1 2 (by decide)).2.2⟩
  · refine ⟨_, _, itN_j h1 h2, h3, ⟨⟨fun k a b => ?_, ?_, fun i a b => ?_, fun c a b => ?_⟩, h4, fun k a b => ?_⟩, w1, w2, w3, (h2.1 0 (by decide)).2, w5⟩
    · rw [h6 (P + 1) (by omega) (by omega) (by omega)]; exact c1 k a b
    · rw [h5 5 (by decide)]; exact c2
    · rw [h6 (P + 5 + 3 * i) (by omega) (by omega) (by omega), h6 (P + 5 + 3 * i + 1) (by omega) (by omega) (by omega), h6 (P + 5 + 3 * i + 2) (by omega) (by omega) (by omega)]
      exact c3 i a b
    · rw [h6 (P + 4) (by omega) (by omega) (by omega)]; exact c4 c a b
    · rw [h6 (P + 2) (by omega) (by omega) (by omega)]; exact c6 k a b
  · refine ⟨_, _, itN_b h1 h2, h3, ⟨⟨fun k k0 k9 => ?_, ?_, fun i i0 i1 => ?_, fun c c0 c9 => ?_⟩, ?_, fun k k0 k9 => ?_⟩, w1, w2, w3, w4, fun k k0 k9 => ?_⟩
    · rw [h5 (P + 1) (by omega) (by omega) (by omega)]; exact c1 k k0 k9
    · rw [h5 P (by omega) (by omega) (by omega)]; exact c2
    · rw [h5 (P + 5 + 3 * i) (by omega) (by omega) (by omega), h5 (P + 5 + 3 * i + 1) (by omega) (by omega) (by omega), h5 (P + 5 + 3 * i + 2) (by omega) (by omega) (by omega)]
      exact c3 i i0 i1
    · rw [h5 (P + 4) (by omega) (by omega) (by omega)]; exact c4 c c0 c9
    · rw [h5 P (by omega) (by omega) (by omega)]; exact c5
    · rw [h4 k k0 k9]
      unfold bgV
      dsimp only
      by_cases q : 3 * nv t n (ps t n (a + 1) 0) ≤ k ∧ k < 3 * nv t n (ps t n (a + 1) 0) + 3
      · rw [if_pos q, if_pos q]
      · rw [if_neg q, if_neg q]; exact c6 k k0 k9
    · dsimp only
      unfold bgV
      by_cases q : 3 * nv t n (ps t n (a + 1) 0) ≤ k ∧ k < 3 * nv t n (ps t n (a + 1) 0) + 3
      · rw [if_pos q]
        exact (h2.1.1 (k - 3 * nv t n (ps t n (a + 1) 0) + 1).toNat (by omega)).2
      · rw [if_neg q]; exact w5 k k0 k9
  · have hn := h4.n
    have hr := h4.2.1
    refine ⟨_, _, itN_l h1 (by omega) h3, h6, ⟨⟨fun k a b => ?_, ?_, fun i a b => ?_, ov_IPl ?_⟩, ?_, fun k a b => ?_⟩, ⟨by rw [addL_l]; omega, by rw [addL_l]; omega⟩, w2, fun i a b => ?_, w4, w5⟩
    · rw [h11 (P + 1) (by omega) (by omega) (by omega) (by omega) (by omega) (by omega) (by omega)]; exact c1 k a b
    · rw [h9, addL_l, hl]
    · have b : i < dl S.1 + 1 := b
      by_cases e : i = dl S.1
      · obtain ⟨e1, e2, e3, e4⟩ := addL_n (d := S.1) (s := s)
        obtain ⟨⟨k1, k2, k3, k4⟩, k5, k6, k7⟩ := h7
        rw [e, e1, e2, hl]
        rw [hl] at e3 e4
        refine ⟨k3, k5, fun k k0 kn => by rw [e4 k k0 (by omega)]; exact k4 k k0 kn, fun r r0 r1 => ?_⟩
        rw [rsum_c _ (fun r' a' b' => e3 r' a' (by omega))]
        exact k7 r r0 r1
      · obtain ⟨e1, e2, e3, e4⟩ := addL_o (d := S.1) (s := s) (i := i) ⟨a, by omega⟩
        obtain ⟨q1, q2, q3, q4⟩ := c3 i a (by omega)
        have hm := (w3 i a (by omega)).mx
        have hm5 := (w3 i a (by omega)).1
        rw [h11 (P + 5 + 3 * i) (by omega) (by omega) (by omega) (by omega) (by omega) (by omega) (by omega), h11 (P + 5 + 3 * i + 1) (by omega) (by omega) (by omega) (by omega) (by omega) (by omega) (by omega), h11 (P + 5 + 3 * i + 2) (by omega) (by omega) (by omega) (by omega) (by omega) (by omega) (by omega), e1, e2]
        refine ⟨q1, q2, fun k k0 kn => by rw [e4 k k0 (by omega)]; exact q3 k k0 kn, fun r r0 r1 => ?_⟩
        rw [rsum_c _ (fun r' a' b' => e3 r' a' (by omega))]
        exact q4 r r0 r1
    · rw [fD_add hl (by omega) w3]; exact h8
    · rw [h10 4 (by decide)]; exact c5
    · rw [h11 (P + 2) (by omega) (by omega) (by omega) (by omega) (by omega) (by omega) (by omega)]; exact c6 k a b
    · have b : i < dl S.1 + 1 := b
      by_cases e : i = dl S.1
      · rw [e]; exact addL_w h4 h5
      · exact addL_wo ⟨a, by omega⟩ (w3 i a (by omega))
