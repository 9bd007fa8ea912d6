/-! ===== the finder finds the way ===== -/
theorem Wq_of {d : Dt} {i : Int} (hw : WLine d i) (R : Int → Int) : Wq (pcOf d R i) := by
  have h := WPc.of hw R
  have hm := hw.mx
  obtain ⟨h1, h2, h3, h4, h5⟩ := h
  unfold pcZ at h1 h2 h3 h4 h5
  dsimp only at h1 h2 h3 h4 h5
  exact ⟨h1, h4, h5, by omega⟩
/-- each piece takes a stone -/
theorem Cw_p {q : Pc} (hq : Wq q) {z : Int → Int} {J : Int} (he : Eok (enQ z J q)) : ∀ (n : Nat) (x p k : Int) (b : Bg), x.toNat ≤ n → Pos q x p k → bok b → Cw (enQ z J q) x b ≠ 1000000 → q.1 - p ≤ Cw (enQ z J q) x b % 32 := by
  intro n
  induction n with
  | zero =>
    intro x p k b hx hP hb hC
    have := hP.x hq
    have h3 := hP.2.2.1
    rw [Cw_0 (by omega)]
    have : ¬ p < q.1 := fun h => by have := this.2.2.mpr h; omega
    omega
  | succ n ih =>
    intro x p k b hx hP hb hC
    have hxx := hP.x hq
    have h3 := hP.2.2.1
    by_cases q1 : p < q.1
    · have hpos := hxx.2.2.mpr q1
      obtain ⟨len, s, hv, e1⟩ := (Cw_at he (x := x) (b := b) hpos).resolve_left hC
      have ha := aft_lt he hv
      have hbd := bdc_ok hb hv.2.1
      have hN : Cw (enQ z J q) (aft (enQ z J q) x len) (bdc b s) ≠ 1000000 := by
        intro q2
        rw [q2] at e1
        exact hC e1
      obtain ⟨c, c0, c1, c2⟩ := own_m (enQ z J q) x len s
      unfold pl at e1
      rw [if_neg hN] at e1
      have hm := (Cw_m he _ (aft (enQ z J q) x len) (bdc b s) (Nat.le_refl _) hbd hN).1
      have hs := bok_s hbd
      have hr := Cw_rr he (x := aft (enQ z J q) x len) hbd
      rw [e1, c2]
      have hJ0 : 0 ≤ J := he.2.1
      rcases hP.nx hq hJ0 q1 hv with ⟨_, hPn⟩ | ⟨_, _, hPn⟩
      · have := ih _ _ _ _ (by omega) hPn hbd hN
        omega
      · have := ih _ _ _ _ (by omega) hPn hbd hN
        omega
    · have hb2 := bok_s hb
      have hr := Cw_rr he (x := x) hb
      omega
theorem tX9_clear {g : Shp} {m : Mem} {w : Int} (hg2 : gl g (w + 2) = 3) (hg3 : gl g (w + 3) = 3) : T (eX9_clear g w m) (fun r => (∀ (z : Int → Int) (q : Sq), WayN r.2 w z q 0) ∧ r.2 w 7 = 0 ∧ (∀ b, (b < 3 ∨ 7 < b) → r.2 w b = m w b) ∧ ∀ a, (a < w ∨ w + 3 < a) → r.2 a = m a) := by
  unfold eX9_clear ebX9_clear_0
  refine T_bd2 (tJ7_fillA (by omega) (by omega)) ?_
  rintro r1 m1 ⟨a1, b1⟩
  dsimp only at a1 b1
  refine T_bd2 (tJ7_fillA (by omega) (by omega)) ?_
  rintro r2 m2 ⟨a2, b2⟩
  dsimp only at a2 b2
  refine T_vm' (fun m3 e3 => T_vm' (fun m4 e4 => T_vm' (fun m5 e5 => T_vm' (fun m6 e6 => T_vm' (fun m7 e7 => T_some ⟨fun z q => ⟨?_, fun i hi => by omega, fun s s0 s1 => ⟨?_, ?_⟩, ?_, ?_⟩, ?_, fun b hb => ?_, fun a ha => ?_⟩)))))
  · dsimp only; rw [e7, ms_y (by decide), e6, ms_y (by decide), e5, ms_y (by decide), e4, ms_at]; rfl
  · dsimp only; rw [e7, ms_x (by omega), e6, ms_x (by omega), e5, ms_x (by omega), e4, ms_x (by omega), e3, ms_x (by omega), b2 _ (by omega), a1 s s0 (by omega)]; rfl
  · dsimp only; rw [e7, ms_x (by omega), e6, ms_x (by omega), e5, ms_x (by omega), e4, ms_x (by omega), e3, ms_x (by omega), a2 s s0 (by omega)]; rfl
  · dsimp only; rw [e7, ms_y (by decide), e6, ms_y (by decide), e5, ms_y (by decide), e4, ms_y (by decide), e3, ms_at]; rfl
  · dsimp only; rw [e7, ms_y (by decide), e6, ms_at]; rfl
  · dsimp only; rw [e7, ms_at]
  · dsimp only; rw [e7, ms_y (by omega), e6, ms_y (by omega), e5, ms_y (by omega), e4, ms_y (by omega), e3, ms_y (by omega), b2 w (by omega), b1 w (by omega)]
  · dsimp only; rw [e7, ms_f (by omega), e6, ms_f (by omega), e5, ms_f (by omega), e4, ms_f (by omega), e3, ms_f (by omega), b2 a (by omega), b1 a (by omega)]
/-- the row of worths: the first, or the longer one that was made -/
def RmOk (g : Shp) (m : Mem) : Prop := (m 5 2 = 10 ∧ gn g ≤ 267 ∧ gs g ≤ 100000) ∨ (m 5 2 = 268 ∧ gl g 268 = 6174 ∧ gn g ≤ 268 ∧ gs g ≤ 106174)
theorem tX0_forgetWorths {g : Shp} {m : Mem} {N : Int} (hG : gOk g) (hg10 : gl g 10 = 1715) (hk267 : gk g 267 = 20) (hR : RmOk g m) (hN : m 6 2 = N) (hN2 : 0 ≤ N ∧ N ≤ 18) :
    T (eX0_forgetWorths g m) (fun r => (gOk r.2.1 ∧ gX g r.2.1) ∧ RmOk r.2.1 r.2.2 ∧ N * 343 ≤ gl r.2.1 (r.2.2 5 2) ∧ (∀ k, 0 ≤ k → k < N * 343 → r.2.2 (r.2.2 5 2) k = -1) ∧ (∀ b, b ≠ 2 → r.2.2 5 b = m 5 b) ∧ ∀ a, a ≠ 5 → a ≠ 10 → a ≤ 267 → r.2.2 a = m a) := by
  unfold eX0_forgetWorths ebX0_forgetWorths_0
  rw [hN, w32_id (by omega) (by omega)]
  have fin : ∀ (g2 : Shp) (m2 : Mem), gOk g2 → gX g g2 → RmOk g2 m2 → N * 343 ≤ gl g2 (m2 5 2) → gl g2 (m2 5 2) ≤ 90000 → (∀ b, b ≠ 2 → m2 5 b = m 5 b) → (∀ a, a ≠ 5 → a ≠ 10 → a ≤ 267 → m2 a = m a) → T (ebX0_forgetWorths_30 (N * 343) g2 m2) (fun r => (gOk r.2.1 ∧ gX g r.2.1) ∧ RmOk r.2.1 r.2.2 ∧ N * 343 ≤ gl r.2.1 (r.2.2 5 2) ∧ (∀ k, 0 ≤ k → k < N * 343 → r.2.2 (r.2.2 5 2) k = -1) ∧ (∀ b, b ≠ 2 → r.2.2 5 b = m 5 b) ∧ ∀ a, a ≠ 5 → a ≠ 10 → a ≤ 267 → r.2.2 a = m a) := by
    intro g2 m2 h1 h2 h3 h4 h5 h6 h7
    unfold ebX0_forgetWorths_30
    refine T_bd2 (tJ7_fill (r := m2 5 2) (by decide) (by omega) h4 h5) ?_
    rintro r3 m3 ⟨u1, u2, u3⟩
    dsimp only at u1 u2 u3
    have h10 : m2 5 2 = 10 ∨ m2 5 2 = 268 := by rcases h3 with ⟨q, _⟩ | ⟨q, _⟩ <;> omega
    have e5 : m3 5 = m2 5 := u3 5 (by omega)
    refine T_some ⟨⟨h1, h2⟩, ?_, ?_, fun k k0 k1 => ?_, fun b hb => ?_, fun a a1 a2 a3 => ?_⟩
    · unfold RmOk
      dsimp only
      rw [e5]; exact h3
    · dsimp only; rw [e5]; exact h4
    · dsimp only; rw [e5]; exact u1 k k0 k1
    · dsimp only; rw [e5]; exact h6 b hb
    · dsimp only; rw [u3 a (by omega)]; exact h7 a a1 a2 a3
  have h267 : 267 ≤ gn g := by have := (hG.1 267 (by rw [hk267]; decide)).2; omega
  refine T_vv (T_if (fun c => fin g m hG (gX.rf g) hR c ?_ (fun _ _ => rfl) (fun _ _ _ _ => rfl)) (fun c => ?_))
  · rcases hR with ⟨q, _⟩ | ⟨q, q2, _⟩
    · rw [q, hg10]; decide
    · rw [q, q2]; decide
  · rcases hR with ⟨q1, q2, q3⟩ | ⟨q1, q2, _⟩
    · have hgn : gn g = 267 := by omega
      refine T_ck ⟨by omega, by decide, by decide⟩ ?_
      show T (ebX0_forgetWorths_27 (N * 343) ((gn g : Int) + 1) (gA g 20 6174 6174) (mA g m)) _
      unfold ebX0_forgetWorths_27
      refine T_vm' (fun m1 e1 => ?_)
      have e52 : m1 5 2 = 268 := by rw [e1, ms_at, hgn]; rfl
      have hm1 : ∀ a b, (a ≠ 5 ∨ b ≠ 2) → a ≤ 267 → m1 a b = m a b := by
        intro a b hab ha
        rw [e1, ms_ne (fun q => by omega)]
        unfold mA
        have : (g.1 : Int) = 267 := by have : gn g = g.1 := rfl; omega
        rw [if_neg (by omega)]
      refine fin _ m1 (gA_ok hG ⟨by omega, by decide, by decide⟩ rfl) (gA_X hG rfl) (Or.inr ⟨e52, gA_l rfl (by rw [hgn]; rfl), ?_, ?_⟩) ?_ ?_ (fun b hb => hm1 5 b (Or.inr hb) (by decide)) (fun a a1 a2 a3 => funext fun b => hm1 a b (Or.inl a1) a3)
      · rw [(gA_n rfl).1]; omega
      · rw [(gA_n rfl).2]; omega
      · rw [e52, gA_l (g := g) (k := 20) (sl := 6174) (len := 6174) rfl (by rw [hgn]; rfl)]; omega
      · rw [e52, gA_l (g := g) (k := 20) (sl := 6174) (len := 6174) rfl (by rw [hgn]; rfl)]; decide
    · rw [q1, q2] at c
      omega
/-- what a line costs in a colour, by what is told and a row -/
def enR (d : Dt) (R : Int → Int) (i : Int) : En := enQ (dz d) (R 0) (pcOf d R i)
def xR (d : Dt) (R : Int → Int) (i : Int) : Int := lft (pcOf d R i) 0 (lfl (pcOf d R i) 0)
def bR (R : Int → Int) (c : Int) : Bg := (R (1 + 3 * c), R (1 + 3 * c + 1), R (1 + 3 * c + 2))
noncomputable def cR (d : Dt) (R : Int → Int) (i c : Int) : Int := Cw (enR d R i) (xR d R i) (bR R c)
noncomputable def sR (d : Dt) (R : Int → Int) (i c : Int) : Sq := trQ (enR d R i) (xR d R i) (bR R c)
def WayR (m : Mem) (w : Int) (d : Dt) (R : Int → Int) (i c : Int) : Prop := (m w 7 = 0 ∧ cR d R i c = 1000000) ∨ (m w 7 = 1 ∧ cR d R i c ≠ 1000000 ∧ m w 5 = cR d R i c / 32 ∧ WayN m w (dz d) (sR d R i c) (cR d R i c % 32).toNat ∧ WSq (dz d) (sR d R i c) (cR d R i c % 32).toNat)
theorem Pos_0 {q : Pc} (hq : Wq q) : Pos q (lft q 0 (lfl q 0)) 0 (lfl q 0) := by
  refine ⟨rfl, by decide, hq.1, fun h => ?_, fun h => ?_⟩
  · unfold lfl; rw [if_pos h]
    have := hq.2.1 0 (by decide) h
    omega
  · unfold lfl; rw [if_neg (by omega)]
