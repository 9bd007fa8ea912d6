/-! ===== one stone of the way ===== -/
noncomputable def trQ (e : En) (x : Int) (b : Bg) : Sq := ((fun i => (stn e x b i).1), (fun i => (stn e x b i).2), (fun i => asl1 e (tr e x b i).1 (stn e x b i).1 (stn e x b i).2))
/-- the finder stands behind n stones -/
def StN (g : Shp) (m : Mem) (q : Pc) (z : Int → Int) (J x : Int) (b : Bg) (w : Int) (n : Nat) : Prop := FwM g m q (enQ z J q) ∧ WT m q (enQ z J q) ∧ (∃ p k, At m q (enQ z J q) (tr (enQ z J q) x b n).1 (tr (enQ z J q) x b n).2 p k) ∧ WayN m w (ez (enQ z J q)) (trQ (enQ z J q) x b) n ∧ WSq (ez (enQ z J q)) (trQ (enQ z J q) x b) n
/-- what setting stones leaves as it is -/
def StF (w : Int) (m m' : Mem) : Prop := (∀ b, b ≠ 6 → b ≠ 7 → b ≠ 8 → m' 5 b = m 5 b) ∧ (∀ b, b ≠ 3 → b ≠ 4 → b ≠ 6 → m' w b = m w b) ∧ ∀ a, a ≠ 5 → a ≠ 12 → a ≠ m 5 2 → (a < w ∨ w + 3 < a) → m' a = m a
theorem StF.rf (w : Int) (m : Mem) : StF w m m := ⟨fun _ _ _ _ => rfl, fun _ _ _ _ => rfl, fun _ _ _ _ _ => rfl⟩
theorem StF.tr {w : Int} {m m' m'' : Mem} (h : StF w m m') (h2 : StF w m' m'') : StF w m m'' := by
  have e : m' 5 2 = m 5 2 := h.1 2 (by decide) (by decide) (by decide)
  exact ⟨fun b b1 b2 b3 => (h2.1 b b1 b2 b3).trans (h.1 b b1 b2 b3), fun b b1 b2 b3 => (h2.2.1 b b1 b2 b3).trans (h.2.1 b b1 b2 b3), fun a a1 a2 a3 a4 => (h2.2.2 a a1 a2 (by rw [e]; exact a3) a4).trans (h.2.2 a a1 a2 a3 a4)⟩
theorem tX0_setStone {g : Shp} {m : Mem} {q : Pc} {z : Int → Int} {J x w : Int} {b : Bg} {n : Nat} (he : Eok (enQ z J q)) (hq : Wq q) (h18 : q.1 ≤ 18) (hgk : ∀ i, 0 ≤ i → i < 24 → gk g (13 + 3 * i) = 3) (hgw : gl g (w + 1) = 18) (hw : 84 < w ∧ w + 3 ≤ 267) (hb : bok b) {p0 k0 : Int} (hP0 : Pos q x p0 k0) (hC : Cw (enQ z J q) x b ≠ 1000000) (hn : (n : Int) < Cw (enQ z J q) x b % 32) (h : StN g m q z J x b w n) :
    T (eX0_setStone g w m) (fun r => StN g r.2 q z J x b w (n + 1) ∧ StF w m r.2) := by
  have hall := tr_all hq he hb hP0 hC n (by omega)
  have hm18 := (Cw_m he _ x b (Nat.le_refl _) hb hC).1
  have hbs := bok_s hb
  obtain ⟨hf, hwt, ⟨p, k, hA⟩, hW, hWS⟩ := h
  obtain ⟨_, hbn, hCn, hmn⟩ := hall
  have hP := hA.1
  have hxx := hP.x hq
  have ets := tr_s (enQ z J q) x b n
  have est : stn (enQ z J q) x b n = fs (enQ z J q) (tr (enQ z J q) x b n).1 (tr (enQ z J q) x b n).2 := rfl
  have eA : (trQ (enQ z J q) x b).2.2 n = asl1 (enQ z J q) (tr (enQ z J q) x b n).1 (stn (enQ z J q) x b n).1 (stn (enQ z J q) x b n).2 := rfl
  have eL : (trQ (enQ z J q) x b).1 n = (stn (enQ z J q) x b n).1 := rfl
  have eS : (trQ (enQ z J q) x b).2.1 n = (stn (enQ z J q) x b n).2 := rfl
  generalize hxn : (tr (enQ z J q) x b n).1 = xn at *
  generalize hbn' : (tr (enQ z J q) x b n).2 = bn at *
  have hpos : 0 < xn := by
    by_cases q1 : 0 < xn
    · exact q1
    · rw [Cw_0 (by omega)] at hmn
      omega
  have hp := hxx.2.2.mp hpos
  have hw5 := hf.2.2.1
  unfold eX0_setStone ebX0_setStone_0
  rw [hA.2.2.1]
  refine T_vv (T_bdl (stone_loop he hq h18 hgk hf hwt hA hbn hCn hp) ?_)
  rintro c ⟨len, s, m1⟩ ⟨e1, hFS, w1, f1⟩
  dsimp only at e1 hFS w1 f1 ⊢
  subst e1
  refine T_it rfl ?_
  have hstn : stn (enQ z J q) x b n = (len, s) := by rw [est]; exact FS_eq hFS
  rw [hstn] at eA eL eS ets
  dsimp only at eA eL eS ets
  obtain ⟨hg, _, _⟩ := hFS
  dsimp only at hg
  have hv := hg.1
  have hs : 0 ≤ s ∧ s < 3 := ⟨hv.1.1.1, by have := hv.1.1.2; omega⟩
  have hzs := he.z hv.1.1
  have hbd := bdc_ok hbn hv.2.1
  have hA1 : At m1 q (enQ z J q) xn bn p k := hA.c (f1 5 (by omega)) (f1 11 (by omega)) (f1 12 (by omega))
  have hf1 := FwM.c hq hf f1
  unfold ebX0_setStone_49
  refine T_bd2 (tX0_isAslant hq (by omega) hf1.1 hA1 hp) ?_
  intro r2 m2 e2
  obtain ⟨er2, em2⟩ := Prod.mk.inj e2
  rw [em2]
  refine T_bd2 (tX0_ownWorth hq (by omega) hf1.1 hA1 hp hs) ?_
  intro r3 m3 e3
  obtain ⟨er3, em3⟩ := Prod.mk.inj e3
  rw [em3, hA1.2.2.2.2.1]
  have hN : Cw (enQ z J q) (aft (enQ z J q) xn len) (bdc bn s) ≠ 1000000 := by
    intro q1
    have := hg.2
    rw [q1] at this
    exact hCn this.symm
  have hown := own_r (enQ z J q) xn len s
  have eC : Cw (enQ z J q) xn bn - own (enQ z J q) xn len s = Cw (enQ z J q) (aft (enQ z J q) xn len) (bdc bn s) := by
    have := hg.2
    unfold pl at this
    rw [if_neg hN] at this
    omega
  have hvb := Cw_vb he (x := aft (enQ z J q) xn len) hbd
  unfold vb at hvb
  rw [er3, eC, w32_id (by omega) (by omega)]
  refine T_vm' (fun m4 e4 => T_ck hs ?_)
  rw [show m4 11 s = ez (enQ z J q) s by rw [e4, ms_x (by decide)]; exact hA1.2.2.2.2.2.2 s hs.1 hs.2, er2]
  have hWS' : WSq (ez (enQ z J q)) (trQ (enQ z J q) x b) (n + 1) := by
    intro i hi
    by_cases ei : i = n
    · subst ei
      rw [eS, eL, eA]
      exact ⟨hv.1.1, ⟨hv.1.2, hv.2.2.1, hzs.2⟩, asl1_r _ _ _ _⟩
    · exact hWS i (by omega)
  have hW4 : WayN m4 w (ez (enQ z J q)) (trQ (enQ z J q) x b) n := hW.c (fun a a1 a2 => by rw [e4, ms_f (by omega), f1 a (by omega)])
  refine T_bd2 (tX9_add hgw (by omega) hWS' hW4 eL.symm eS.symm eA.symm (by rw [eS])) ?_
  rintro r5 m5 ⟨u1, u2, u3⟩
  dsimp only at u1 u2 u3
  have f5 : ∀ a, a ≠ 5 → a ≠ m 5 2 → (a < w ∨ w + 3 < a) → m5 a = m a := fun a a1 a2 a3 => by rw [u3 a a3, e4, ms_f a1, f1 a a2]
  have e512 : m5 12 s = bg bn s := by rw [f5 12 (by decide) (by omega) (by omega)]; exact hA.bgs hs
  have hbgr : 0 < bg bn s ∧ bg bn s ≤ 6 := by
    refine ⟨hv.2.1, ?_⟩
    unfold bok at hbn
    unfold bg
    split
    · omega
    · split <;> omega
  rw [e512, w32_id (by omega) (by omega)]
  refine T_ck hs (T_ck hs (T_vm' (fun m6 e6 => ?_)))
  have h12 := bdc_ms (m := m5) (b := bn) (s := s) (v := bg bn s - 1) hs (by rw [f5 12 (by decide) (by omega) (by omega)]; exact hA.2.2.2.1) rfl
  rw [← e6] at h12
  have e65 : ∀ j, j ≠ 8 → m6 5 j = m 5 j := fun j hj => by rw [e6, ms_x (by decide), u3 5 (by omega), e4, ms_y hj, f1 5 (by omega)]
  have e658 : m6 5 8 = Cw (enQ z J q) (aft (enQ z J q) xn len) (bdc bn s) := by rw [e6, ms_x (by decide), u3 5 (by omega), e4, ms_at]
  have f6 : ∀ a, a ≠ 5 → a ≠ 12 → a ≠ m 5 2 → (a < w ∨ w + 3 < a) → m6 a = m a := fun a a1 a2 a3 a4 => by rw [e6, ms_f a2]; exact f5 a a1 a3 a4
  have w6 : m6 (m 5 2) = m1 (m 5 2) := by rw [e6, ms_f (by omega), u3 _ (by omega), e4, ms_f (by omega)]
  have f65 : FwM g m6 q (enQ z J q) := by
    obtain ⟨g1, g2, g3, g4⟩ := hf
    refine ⟨?_, fun p' a1 a2 k' a3 a4 => ?_, by rw [e65 2 (by decide)]; exact g3, by rw [e65 2 (by decide)]; exact g4⟩
    · unfold PcC
      rw [f6 6 (by decide) (by decide) (by omega) (by omega), f6 7 (by decide) (by decide) (by omega) (by omega), f6 8 (by decide) (by decide) (by omega) (by omega)]
      exact g1
    · have hr := lyA_r (k := k') (b := q.2.2.1 p') ⟨by omega, by have := (hq.2.1 p' a1 a2).2; omega⟩ (hq.2.2.1 p' a1 a2)
      exact (g2 p' a1 a2 k' a3 a4).c (fun a b1 b2 => f6 a (by omega) (by omega) (by omega) (by omega))
  have fin : ∀ (m7 : Mem) (p' k' : Int), Pos q (aft (enQ z J q) xn len) p' k' → m7 5 6 = p' → m7 5 7 = k' → (∀ j, j ≠ 6 → j ≠ 7 → m7 5 j = m6 5 j) → (∀ a, a ≠ 5 → m7 a = m6 a) → T (some ((0 : Int), m7)) (fun r => StN g r.2 q z J x b w (n + 1) ∧ StF w m r.2) := by
    intro m7 p' k' hP' h6 h7 hj hf7
    have e52 : m7 5 2 = m 5 2 := by rw [hj 2 (by decide) (by decide)]; exact e65 2 (by decide)
    refine T_some ⟨⟨?_, ?_, ⟨p', k', ?_⟩, ?_, hWS'⟩, fun b' b1 b2 b3 => ?_, fun b' b1 b2 b3 => ?_, fun a a1 a2 a3 a4 => ?_⟩
    · obtain ⟨g1, g2, g3, g4⟩ := f65
      refine ⟨?_, fun p' a1 a2 k' a3 a4 => ?_, by dsimp only; rw [hj 2 (by decide) (by decide)]; exact g3, by dsimp only; rw [hj 2 (by decide) (by decide)]; exact g4⟩
      · unfold PcC
        dsimp only
        rw [hf7 6 (by decide), hf7 7 (by decide), hf7 8 (by decide)]
        exact g1
      · have hr := lyA_r (k := k') (b := q.2.2.1 p') ⟨by omega, by have := (hq.2.1 p' a1 a2).2; omega⟩ (hq.2.2.1 p' a1 a2)
        exact (g2 p' a1 a2 k' a3 a4).c (fun a b1 b2 => hf7 a (by omega))
    · unfold WT
      dsimp only
      rw [e52, hf7 _ (by omega), w6]
      have := w1
      unfold WT at this
      rw [f1 5 (by omega)] at this
      exact this
    · rw [ets]
      dsimp only
      refine ⟨hP', h6, h7, ?_, ?_, ?_, fun s' a1 a2 => ?_⟩
      · rw [hf7 12 (by decide)]; exact h12
      · rw [hj 8 (by decide) (by decide)]; exact e658
      · rw [hj 5 (by decide) (by decide), e65 5 (by decide)]; exact hA.2.2.2.2.2.1
      · rw [hf7 11 (by decide), f6 11 (by decide) (by decide) (by omega) (by omega)]; exact hA.2.2.2.2.2.2 s' a1 a2
    · exact u1.c (fun a a1 a2 => by dsimp only; rw [hf7 a (by omega), e6, ms_f (by omega)])
    · dsimp only; rw [hj b' b1 b2]; exact e65 b' b3
    · dsimp only; rw [hf7 w (by omega), e6, ms_f (by omega), u2 b' b1 b2 b3, e4, ms_f (by omega), f1 w (by omega)]
    · dsimp only; rw [hf7 a a1]; exact f6 a a1 a2 a3 a4
  have hJ : 0 ≤ J ∧ J ≤ 2 := he.2
  have hk := hP.2.2.2.1 hp
  have hk12 := (hq.2.1 p hP.2.1 hp).2
  have hp0 := hP.2.1
  refine T_bd2 (Q := fun r => StN g r.2 q z J x b w (n + 1) ∧ StF w m r.2) ?_ (fun r m' hh => T_some hh)
  unfold eX0_goBehind ebX0_goBehind_0 ebX0_goBehind_48
  rw [e65 7 (by decide), hA.2.2.1, e65 6 (by decide), hA.2.1, e65 5 (by decide), hA.2.2.2.2.2.1]
  have ejJ : ej (enQ z J q) = J := rfl
  rw [ejJ]
  rcases hP.nx hq hJ.1 hp hv with ⟨c1, hPn⟩ | ⟨c1, c2, hPn⟩
  · refine T_it c1 ?_
    rw [w32_id (by omega) (by omega)]
    refine T_vm' (fun m7 e7 => ?_)
    rw [show m7 5 6 = p + 1 by rw [e7, ms_at]]
    have hp7 : PcC m7 q := by
      unfold PcC
      rw [e7, ms_f (by decide), ms_f (by decide), ms_f (by decide)]
      exact f65.1
    refine T_bd2 (tX0_cellsOf hp7 (by omega) (by omega)) ?_
    intro r8 m8 e8
    obtain ⟨er8, em8⟩ := Prod.mk.inj e8
    rw [em8, er8]
    refine T_vm' (fun m9 e9 => fin m9 (p + 1) (lfl q (p + 1)) hPn ?_ ?_ (fun j j1 j2 => ?_) (fun a ha => ?_))
    · rw [e9, ms_y (by decide), e7, ms_at]
    · rw [e9, ms_at]
    · rw [e9, ms_y j2, e7, ms_y j1]
    · rw [e9, ms_f ha, e7, ms_f ha]
  · refine T_ie c1 ?_
    rw [w32_id (x := len + J) (by have := hv.1.2; omega) (by omega), w32_id (by omega) (by have := hv.1.2; omega)]
    refine T_vm' (fun m7 e7 => fin m7 p (k - len - J) hPn ?_ ?_ (fun j j1 j2 => ?_) (fun a ha => ?_))
    · rw [e7, ms_y (by decide), e65 6 (by decide)]; exact hA.2.1
    · rw [e7, ms_at]; omega
    · rw [e7, ms_y j2]
    · rw [e7, ms_f ha]
