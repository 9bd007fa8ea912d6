/-- what a search leaves as it is -/
def FiF (w : Int) (m m' : Mem) : Prop := (∀ a, a ≤ 267 → (a < 5 ∨ 84 < a) → (a < w ∨ w + 3 < a) → m' a = m a) ∧ m' w 8 = m w 8
theorem tX0_find {g : Shp} {m : Mem} {d : Dt} {R : Int → Int} {i f P c w : Int} (hS : Sh g m) (hG : gOk g) (hR : RmOk g m) (hLy : LyOk m) (hd : WPl d) (hi : 0 ≤ i ∧ i < dl d) (hp : IPl m P d) (hr : RowEq (rowC m f) R) (hW : WRow d R) (hP : P = 177 ∨ P = 191) (hf : 84 < f ∧ f + 7 ≤ 175) (hgf : gl g (f + 1) = 400) (hc : 0 ≤ c ∧ c ≤ 2) (hw : w = 148 ∨ 205 ≤ w ∧ w ≤ 237) (hfw : f + 7 < w ∨ w + 3 < f) (hgw : gk g w = 10) :
    T (eX0_find (P + 5 + 3 * i) (P + 1) f c w g m) (fun r => WayR r.2.2 w d R i c ∧ LyOk r.2.2 ∧ RmOk r.2.1 r.2.2 ∧ FiF w m r.2.2) := by
  have hwl := hd.2.2 i hi.1 hi.2
  have hq := Wq_of hwl R
  have hl3 := hd.1.2
  have he : Eok (enR d R i) := ⟨hd.2.1, hW.1⟩
  have hb : bok (bR R c) := ⟨hW.2.1 _ (by omega) (by omega), hW.2.1 _ (by omega) (by omega), hW.2.1 _ (by omega) (by omega)⟩
  have hT := hS.1
  have hU := hS.2.2.2
  have hgw1 := ((hU w).2.2.2.1 hgw).1.2.2
  have hgw2 := ((hU w).2.2.2.1 hgw).2.1.2.2
  have hgw3 := ((hU w).2.2.2.1 hgw).2.2.2.2
  have hg11 : gl g 11 = 3 := (hT (11, 20, 3) (by decide)).2
  have hg10 : gl g 10 = 1715 := (hT (10, 20, 1715) (by decide)).2
  have hk267 : gk g 267 = 20 := (hT (267, 20, 3) (by decide)).1
  have hgP : gl g (P + 1) = 3 := by
    rcases hP with q | q <;> subst q
    · exact (hT (178, 20, 3) (by decide)).2
    · exact (hT (192, 20, 3) (by decide)).2
  have hgk : ∀ i, 0 ≤ i → i < 24 → gk g (13 + 3 * i) = 3 := by
    intro i a b
    have := (((hU 9).2.2.2.2.2.2.2.1 (hT (9, 26, 24) (by decide)).1).2 i a b).2
    rw [show (9 : Int) + (4 + 3 * i) = 13 + 3 * i by omega] at this
    exact this
  have hk0 : ∀ i, 0 ≤ i → i < 24 → gk g (13 + 3 * i) ≠ 0 := fun i a b => by rw [hgk i a b]; decide
  unfold eX0_find ebX0_find_0
  refine T_bd2 (tX9_clear hgw2 hgw3) ?_
  rintro r1 m1 ⟨u1, u2, u3, u4⟩
  dsimp only at u1 u2 u3 u4
  refine T_bd2 (tX6_split (R := R) (d := d) (i := i) (P := P) (f := f) hl3 hi hwl (hp.c hl3 (fun a a1 a2 => u4 a (by omega))) (by rw [rowC_c (fun x a b => u4 x (by omega))]; exact hr) (by omega) (by omega) hgf) ?_
  rintro r2 m2 ⟨v1, v2⟩
  dsimp only at v1 v2
  have f2 : ∀ a, (a < 6 ∨ 8 < a) → (a < w ∨ w + 3 < a) → m2 a = m a := fun a a1 a2 => by rw [v2 a a1, u4 a a2]
  rw [v1.1]
  have e8 : ∀ m' : Mem, m' w = m2 w → m' w 8 = m w 8 := fun m' e => by rw [e, v2 w (by omega), u3 8 (by decide)]
  refine T_if (fun h18 => ?_) (fun h18 => ?_)
  · have hrow0 : m2 f 7 = R 0 := by
      rw [f2 f (by omega) (by omega), ← rowC_0 m f, hr 0 (by decide) (by decide)]
    rw [hrow0]
    have hLy2 : LyOk m2 := hLy.c (by rw [f2 5 (by decide) (by omega)]) (fun a ha => f2 a (by omega) (by omega))
    refine T_bd2 (tX0_keepSizes (by omega) hgP hLy2) ?_
    rintro r3 m3 ⟨k1, k2, k3, k4, k5⟩
    dsimp only at k1 k2 k3 k4 k5
    have e11 : ∀ s, 0 ≤ s → s < 3 → m3 11 s = ez (enR d R i) s := fun s a b => by
      rw [k2 s a b, f2 (P + 1) (by omega) (by omega)]; exact hp.1 s a b
    have hpc3 : PcC m3 (pcOf d R i) := by
      unfold PcC
      rw [k5 6 (by decide) (by decide) (by decide), k5 7 (by decide) (by decide) (by decide), k5 8 (by decide) (by decide) (by decide)]
      exact v1
    refine T_bdl (tX0_lists (e := enR d R i) he hq (by omega) hg11 hgk hpc3 k1 e11 k3) ?_
    rintro c4 ⟨x4, m4⟩ ⟨l1, l2, l3⟩
    dsimp only at l1 l2 l3
    unfold ebX0_find_135
    have hpc4 : PcC m4 (pcOf d R i) := by
      unfold PcC
      rw [l3 6 (by decide), l3 7 (by decide), l3 8 (by decide)]
      exact hpc3
    have f4 : ∀ a, a ≠ 5 → a ≠ 11 → (a < 6 ∨ 8 < a) → (a < 13 ∨ 84 < a) → (a < w ∨ w + 3 < a) → m4 a = m a := fun a a1 a2 a3 a4 a5 => by rw [l3 a a4, k5 a a1 a2 a4, f2 a a3 a5]
    have e45 : ∀ b, b ≠ 5 → m4 5 b = m 5 b := fun b hb => by rw [l3 5 (by decide), k4 b hb, f2 5 (by decide) (by omega)]
    have hR4 : RmOk g m4 := by
      unfold RmOk
      rw [e45 2 (by decide)]
      exact hR
    refine T_bd3 (tX0_forgetWorths hG hg10 hk267 hR4 hpc4.1 ⟨hq.1, h18⟩) ?_
    rintro r5 g5 m5 ⟨⟨G1, G2⟩, w1, w2, w3, w4, w5⟩
    dsimp only at G1 G2 w1 w2 w3 w4 w5
    have hgk5 : ∀ i, 0 ≤ i → i < 24 → gk g5 (13 + 3 * i) = 3 := fun i a b => G2.k (hgk i a b) (by decide)
    have hgw5 : gl g5 (w + 1) = 18 := by rw [G2.l (k := 20) ((hU w).2.2.2.1 hgw).1.2.1 (by decide)]; exact hgw1
    have hw52 : m5 5 2 = 10 ∨ m5 5 2 = 268 := by rcases w1 with ⟨q, _⟩ | ⟨q, _⟩ <;> omega
    have f5 : ∀ a, a ≠ 5 → a ≠ 10 → a ≠ 11 → (a < 6 ∨ 8 < a) → (a < 13 ∨ 84 < a) → (a < w ∨ w + 3 < a) → a ≤ 267 → m5 a = m a := fun a a1 a2 a3 a4 a5 a6 a7 => by rw [w5 a a1 a2 a7]; exact f4 a a1 a3 a4 a5 a6
    unfold ebX0_find_139
    rw [w32_id (by omega) (by omega)]
    refine T_ck ⟨by omega, by decide, by decide, by omega, by decide⟩ (T_vm' (fun m6 e6 => T_vm' (fun m7 e7 => ?_)))
    have hpc7 : PcC m7 (pcOf d R i) := by
      unfold PcC
      rw [e7, ms_f (by decide), ms_f (by decide), ms_f (by decide), e6, mcp_f (by decide), mcp_f (by decide), mcp_f (by decide), w5 6 (by decide) (by decide) (by decide), w5 7 (by decide) (by decide) (by decide), w5 8 (by decide) (by decide) (by decide)]
      exact hpc4
    refine T_bd2 (tX0_cellsOf hpc7 (by decide) (by omega)) ?_
    intro r8 m8 e8'
    obtain ⟨er8, em8⟩ := Prod.mk.inj e8'
    rw [em8, er8]
    refine T_vm' (fun m9 e9 => T_ck (by decide) (T_ck (by decide) (T_ck (by decide) ?_)))
    have f9 : ∀ a, a ≠ 5 → a ≠ 12 → m9 a = m5 a := fun a a1 a2 => by rw [e9, ms_f a1, e7, ms_f a1, e6, mcp_f a2]
    have e95 : ∀ b, b ≠ 6 → b ≠ 7 → m9 5 b = m5 5 b := fun b b1 b2 => by rw [e9, ms_y b2, e7, ms_y b1, e6, mcp_x (by decide)]
    have ebag : ∀ s, 0 ≤ s → s < 3 → m9 12 s = R (1 + 3 * c + s) := by
      intro s a b
      rw [e9, ms_x (by decide), e7, ms_x (by decide), e6, mcp_in (by omega) (by omega), f5 (f + 2) (by omega) (by omega) (by omega) (by omega) (by omega) (by omega) (by omega)]
      have := rowC_b (m := m) (f := f) (k := 3 * c + s) (by omega)
      rw [show c * 3 + (s - 0) = 3 * c + s by omega, ← this, hr _ (by omega) (by omega)]
      congr 1
      omega
    have eb0 : m9 12 0 = R (1 + 3 * c) := by rw [ebag 0 (by decide) (by decide)]; congr 1; omega
    have eb1 := ebag 1 (by decide) (by decide)
    have eb2 := ebag 2 (by decide) (by decide)
    have e97 : m9 5 7 = lfl (pcOf d R i) 0 := by rw [e9, ms_at]
    have e96 : m9 5 6 = 0 := by rw [e9, ms_y (by decide), e7, ms_at]
    rw [e97, eb0, eb1, eb2]
    have hF9 : FwM g5 m9 (pcOf d R i) (enR d R i) := by
      refine ⟨?_, fun p p0 p1 k kk1 kk2 => ?_, by rw [e95 2 (by decide) (by decide)]; omega, by rw [e95 2 (by decide) (by decide)]; exact w2⟩
      · unfold PcC
        rw [f9 6 (by decide) (by decide), f9 7 (by decide) (by decide), f9 8 (by decide) (by decide), w5 6 (by decide) (by decide) (by decide), w5 7 (by decide) (by decide) (by decide), w5 8 (by decide) (by decide) (by decide)]
        exact hpc4
      · have hlr := lyA_r (k := k) (b := (pcOf d R i).2.2.1 p) ⟨by omega, by have := (hq.2.1 p p0 p1).2; omega⟩ (hq.2.2.1 p p0 p1)
        exact (l2 p p0 p1 k kk1 kk2).c (fun a a1 a2 => by rw [f9 a (by omega) (by omega), w5 a (by omega) (by omega) (by omega)])
    have hT9 : WT m9 (pcOf d R i) (enR d R i) := by
      intro p b p0 p1 hbb
      left
      have hsr := slt_r ⟨p0, p1⟩ hbb
      rw [e95 2 (by decide) (by decide), f9 _ (by omega) (by omega)]
      exact w3 _ hsr.1 hsr.2
    have hPos := Pos_0 hq
    have hwo := tX0_worthOf (g := g5) (z := dz d) (J := R 0) (e := enR d R i) rfl he hq h18 hgk5 18 0 (by decide) (by omega) 24 (by decide) (lfl (pcOf d R i) 0) (bR R c) m9 hb (fun h => hPos.2.2.2.1 h) hF9 hT9
    refine T_bd2 hwo ?_
    rintro r10 m10 ⟨z1, z2, z3⟩
    dsimp only at z1 z2 z3
    have z1' : r10 = cw (cR d R i c) := z1
    rw [e95 2 (by decide) (by decide)] at z3
    refine T_vm' (fun m11 e11' => ?_)
    have e118 : m11 5 8 = cw (cR d R i c) := by rw [e11', ms_at, z1']
    rw [e118]
    have hvb := Cw_vb he (x := xR d R i) hb
    have hfr : ∀ a, a ≤ 267 → (a < 5 ∨ 84 < a) → (a < w ∨ w + 3 < a) → m11 a = m a := fun a a1 a2 a3 => by rw [e11', ms_f (by omega), z3 a (by omega), f9 a (by omega) (by omega)]; exact f5 a (by omega) (by omega) (by omega) (by omega) (by omega) a3 a1
    have hw11 : m11 w = m2 w := by rw [e11', ms_f (by omega), z3 w (by omega), f9 w (by omega) (by omega), w5 w (by omega) (by omega) (by omega), l3 w (by omega), k5 w (by omega) (by omega) (by omega)]
    have hwx : ∀ a, w ≤ a → a ≤ w + 3 → m11 a = m1 a := fun a a1 a2 => by rw [e11', ms_f (by omega), z3 a (by omega), f9 a (by omega) (by omega), w5 a (by omega) (by omega) (by omega), l3 a (by omega), k5 a (by omega) (by omega) (by omega), v2 a (by omega)]
    have hLy11 : LyOk m11 := by
      refine l1.c ?_ (fun a ha => ?_)
      · rw [e11', ms_y (by decide), z3 5 (by omega), e95 5 (by decide) (by decide)]; exact w4 5 (by decide)
      · rw [e11', ms_f (by omega), z3 a (by omega), f9 a (by omega) (by omega), w5 a (by omega) (by omega) (by omega)]
    have e115 : ∀ b, b ≠ 8 → b ≠ 6 → b ≠ 7 → m11 5 b = m5 5 b := fun b b1 b2 b3 => by rw [e11', ms_y b1, z3 5 (by omega)]; exact e95 b b2 b3
    have hR11 : RmOk g5 m11 := by
      unfold RmOk
      rw [e115 2 (by decide) (by decide) (by decide)]
      exact w1
    have hCv : cR d R i c = Cw (enR d R i) (xR d R i) (bR R c) := rfl
    refine T_if (fun cc => ?_) (fun cc => ?_)
    · have hCf : cR d R i c ≠ 1000000 := by
        intro q1
        rw [q1] at cc
        exact absurd cc (by unfold cw; decide)
      have ecw : cw (cR d R i c) = cR d R i c := by unfold cw; rw [if_neg hCf]
      rw [ecw] at e118
      unfold vb at hvb
      rw [← hCv] at hvb
      have hm18 := (Cw_m he _ (xR d R i) (bR R c) (Nat.le_refl _) hb hCf).1
      rw [← hCv] at hm18
      have hbs := bok_s hb
      refine T_vm' (fun m12 e12 => ?_)
      rw [show m12 5 8 = cR d R i c by rw [e12, ms_x (by omega)]; exact e118, jdiv_n (by omega) (by decide) (by omega)]
      refine T_vm' (fun m13 e13 => ?_)
      have f13 : ∀ a, a ≠ w → m13 a = m11 a := fun a ha => by rw [e13, ms_f ha, e12, ms_f ha]
      have hN0 : StN g5 m13 (pcOf d R i) (dz d) (R 0) (xR d R i) (bR R c) w 0 := by
        refine ⟨?_, ?_, ⟨0, lfl (pcOf d R i) 0, ?_⟩, ?_, fun i hi => by omega⟩
        · obtain ⟨g1, g2, g3, g4⟩ := hF9
          refine ⟨?_, fun p p0 p1 k kk1 kk2 => ?_, by rw [f13 5 (by omega), e115 2 (by decide) (by decide) (by decide)]; omega, by rw [f13 5 (by omega), e115 2 (by decide) (by decide) (by decide)]; exact w2⟩
          · unfold PcC
            rw [f13 6 (by omega), f13 7 (by omega), f13 8 (by omega), e11', ms_f (by decide), ms_f (by decide), ms_f (by decide), z3 6 (by omega), z3 7 (by omega), z3 8 (by omega)]
            exact g1
          · have hlr := lyA_r (k := k) (b := (pcOf d R i).2.2.1 p) ⟨by omega, by have := (hq.2.1 p p0 p1).2; omega⟩ (hq.2.2.1 p p0 p1)
            exact (g2 p p0 p1 k kk1 kk2).c (fun a a1 a2 => by rw [f13 a (by omega), e11', ms_f (by omega), z3 a (by omega)])
        · have hz2 := z2
          unfold WT at hz2 ⊢
          have e105 : m10 5 = m9 5 := z3 5 (by omega)
          rw [f13 5 (by omega), e115 2 (by decide) (by decide) (by decide), f13 _ (by omega), e11', ms_f (by omega)]
          rw [e105, e95 2 (by decide) (by decide)] at hz2
          exact hz2
        · have e10 : m10 5 = m9 5 := z3 5 (by omega)
          refine ⟨hPos, ?_, ?_, ⟨?_, ?_, ?_⟩, ?_, ?_, fun s a b => ?_⟩
          · rw [f13 5 (by omega), e11', ms_y (by decide), e10]; exact e96
          · rw [f13 5 (by omega), e11', ms_y (by decide), e10]; exact e97
          · rw [f13 12 (by omega), e11', ms_x (by decide), z3 12 (by omega)]; exact eb0
          · rw [f13 12 (by omega), e11', ms_x (by decide), z3 12 (by omega)]; exact eb1
          · rw [f13 12 (by omega), e11', ms_x (by decide), z3 12 (by omega)]; exact eb2
          · rw [f13 5 (by omega)]; exact e118
          · rw [f13 5 (by omega), e115 5 (by decide) (by decide) (by decide), w4 5 (by decide), l3 5 (by decide)]; exact k3
          · rw [f13 11 (by omega), e11', ms_x (by decide), z3 11 (by omega), f9 11 (by decide) (by decide), w5 11 (by decide) (by decide) (by decide), l3 11 (by decide)]; exact e11 s a b
        · have h0 := u1 (dz d) (trQ (enR d R i) (xR d R i) (bR R c))
          obtain ⟨y1, y2, y3, y4, y5⟩ := h0
          refine ⟨?_, fun i hi => by omega, fun s a b => ⟨?_, ?_⟩, ?_, ?_⟩
          · rw [e13, ms_y (by decide), e12, ms_y (by decide), hwx w (by omega) (by omega)]; exact y1
          · rw [f13 _ (by omega), hwx _ (by omega) (by omega)]; exact (y3 s a b).1
          · rw [f13 _ (by omega), hwx _ (by omega) (by omega)]; exact (y3 s a b).2
          · rw [e13, ms_y (by decide), e12, ms_y (by decide), hwx w (by omega) (by omega)]; exact y4
          · rw [e13, ms_y (by decide), e12, ms_y (by decide), hwx w (by omega) (by omega)]; exact y5
      refine T_bdl (Q := fun r => StN g5 r.2.2 (pcOf d R i) (dz d) (R 0) (xR d R i) (bR R c) w (cR d R i c % 32).toNat ∧ StF w m13 r.2.2)
        (iter1 (fun n m' => (0 ≤ n ∧ n ≤ cR d R i c % 32) ∧ StN g5 m' (pcOf d R i) (dz d) (R 0) (xR d R i) (bR R c) w n.toNat ∧ StF w m13 m') (fun n => (18 - n).toNat) ⟨by omega, hN0, StF.rf w m13⟩ (by decide) ?_) ?_
      · rintro n m' ⟨n1, n2, n3⟩
        obtain ⟨p', k', hA⟩ := n2.2.2.1
        have hle : ((n.toNat : Nat) : Int) ≤ cR d R i c % 32 := by omega
        have hta := tr_all hq he hb hPos hCf n.toNat hle
        have hxx := hA.1.x hq
        unfold eBX0_find_232 ebX0_find_232
        simp only
        have hN6 : m' 6 2 = (pcOf d R i).1 := n2.1.1.1
        rw [hN6, hA.2.1]
        have out : n = cR d R i c % 32 → ∀ cc : Int, cc ≠ 0 → T (some (cc, (n, m'))) (G (fun r => (fun (n : Int) (m' : Mem) => (0 ≤ n ∧ n ≤ cR d R i c % 32) ∧ StN g5 m' (pcOf d R i) (dz d) (R 0) (xR d R i) (bR R c) w n.toNat ∧ StF w m13 m') r.1 r.2) (fun r => (fun n : Int => (18 - n).toNat) r.1) ((fun n : Int => (18 - n).toNat) n) (fun r => StN g5 r.2.2 (pcOf d R i) (dz d) (R 0) (xR d R i) (bR R c) w (cR d R i c % 32).toNat ∧ StF w m13 r.2.2)) := by
          intro hn cc hcc
          refine T_out hcc ⟨?_, n3⟩
          rw [← hn]; exact n2
        have hmod : Cw (enR d R i) (tr (enR d R i) (xR d R i) (bR R c) n.toNat).1 (tr (enR d R i) (xR d R i) (bR R c) n.toNat).2 % 32 = cR d R i c % 32 - n.toNat := hta.2.2.2
        refine T_if (fun c1 => out (by omega) 1 (by decide)) (fun c1 => T_if (fun c2 => out ?_ 1 (by decide)) (fun c2 => ?_))
        · have hx0 : ¬ 0 < (tr (enR d R i) (xR d R i) (bR R c) n.toNat).1 := fun h => by
            have := hxx.2.2.mp h
            omega
          have hmod2 : Cw (enR d R i) (tr (enR d R i) (xR d R i) (bR R c) n.toNat).1 (tr (enR d R i) (xR d R i) (bR R c) n.toNat).2 % 32 = cR d R i c % 32 - n.toNat := hmod
          rw [Cw_0 (by omega)] at hmod2
          omega
        · have hx0 : 0 < (tr (enR d R i) (xR d R i) (bR R c) n.toNat).1 := hxx.2.2.mpr (by omega)
          have hm1 := (Cw_m he _ (tr (enR d R i) (xR d R i) (bR R c) n.toNat).1 (tr (enR d R i) (xR d R i) (bR R c) n.toNat).2 (Nat.le_refl _) hta.2.1 hta.2.2.1).2 hx0
          have hmod2 : Cw (enR d R i) (tr (enR d R i) (xR d R i) (bR R c) n.toNat).1 (tr (enR d R i) (xR d R i) (bR R c) n.toNat).2 % 32 = cR d R i c % 32 - n.toNat := hmod
          refine T_bd2 (tX0_setStone he hq h18 hgk5 hgw5 (by omega) hb hPos hCf (n := n.toNat) (show ((n.toNat : Nat) : Int) < cR d R i c % 32 by omega) n2) ?_
          rintro r14 m14 ⟨s1, s2⟩
          dsimp only at s1 s2
          rw [w32_id (by omega) (by omega)]
          refine T_vv (T_go ⟨⟨by simp only; omega, by simp only; omega⟩, ?_, n3.tr s2⟩ (by simp only; omega))
          simp only
          rw [show (n + 1).toNat = n.toNat + 1 by omega]
          exact s1
      · rintro c14 ⟨n, m14⟩ ⟨s1, s2⟩
        dsimp only at s1 s2
        unfold ebX0_find_265
        have e145 : ∀ b, b ≠ 6 → b ≠ 7 → b ≠ 8 → m14 5 b = m11 5 b := fun b b1 b2 b3 => by rw [s2.1 b b1 b2 b3, f13 5 (by omega)]
        have e132 : m13 5 2 = m5 5 2 := by rw [f13 5 (by omega)]; exact e115 2 (by decide) (by decide) (by decide)
        have f14 : ∀ a, a ≠ 5 → a ≠ 12 → a ≠ m5 5 2 → (a < w ∨ w + 3 < a) → m14 a = m11 a := fun a a1 a2 a3 a4 => by rw [s2.2.2 a a1 a2 (by rw [e132]; exact a3) a4, f13 a (by omega)]
        refine T_some ⟨Or.inr ⟨?_, hCf, ?_, s1.2.2.2.1, s1.2.2.2.2⟩, ?_, ?_, fun a a1 a2 a3 => ?_, ?_⟩
        · dsimp only; rw [s2.2.1 7 (by decide) (by decide) (by decide), e13, ms_y (by decide), e12, ms_at]
        · dsimp only; rw [s2.2.1 5 (by decide) (by decide) (by decide), e13, ms_at]
        · exact hLy11.c (e145 5 (by decide) (by decide) (by decide)) (fun a ha => f14 a (by omega) (by omega) (by omega) (by omega))
        · unfold RmOk
          dsimp only
          rw [e145 2 (by decide) (by decide) (by decide)]
          exact hR11
        · dsimp only; rw [f14 a (by omega) (by omega) (by omega) a3]; exact hfr a a1 a2 a3
        · dsimp only; rw [s2.2.1 8 (by decide) (by decide) (by decide), e13, ms_y (by decide), e12, ms_y (by decide)]; exact e8 m11 hw11
    · have hCf : cR d R i c = 1000000 := by
        unfold cw at cc
        unfold vb at hvb
        rw [← hCv] at hvb
        split at cc
        · assumption
        · omega
      refine T_some ⟨Or.inl ⟨?_, hCf⟩, hLy11, hR11, hfr, e8 m11 hw11⟩
      dsimp only
      rw [hwx w (by omega) (by omega)]; exact u2
  · have hCf : cR d R i c = 1000000 := by
      by_cases q1 : cR d R i c = 1000000
      · exact q1
      · have h1 := Cw_p hq he _ (xR d R i) 0 (lfl (pcOf d R i) 0) (bR R c) (Nat.le_refl _) (Pos_0 hq) hb q1
        have h2 := (Cw_m he _ (xR d R i) (bR R c) (Nat.le_refl _) hb q1).1
        have h3 := bok_s hb
        have h4 : (pcOf d R i).1 - 0 ≤ Cw (enR d R i) (xR d R i) (bR R c) % 32 := h1
        omega
    refine T_some ⟨Or.inl ⟨?_, hCf⟩, ?_, ?_, fun a a1 a2 a3 => f2 a (by omega) a3, e8 m2 rfl⟩
    · dsimp only; rw [v2 w (by omega)]; exact u2
    · exact hLy.c (by dsimp only; rw [f2 5 (by decide) (by omega)]) (fun a ha => f2 a (by omega) (by omega))
    · unfold RmOk
      dsimp only
      rw [f2 5 (by decide) (by omega)]
      exact hR
