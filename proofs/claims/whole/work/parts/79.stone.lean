/-! ===== the program sets a stone ===== -/
noncomputable def asl1 (e : En) (x len s : Int) : Int := @ite _ (asl e x len s) (Classical.propDecidable _) 1 0
theorem asl1_r (e : En) (x len s : Int) : asl1 e x len s = 0 ∨ asl1 e x len s = 1 := by unfold asl1; split <;> decide
theorem own_a {e : En} {x len s : Int} : own e x len s = ((if len < ez e s then 1 else 0) + asl1 e x len s) * 32 + 1 := by
  unfold own asl1
  split <;> split <;> omega
/-- the finder stands at a place of a line, with a bag -/
def At (m : Mem) (q : Pc) (e : En) (x : Int) (b : Bg) (p k : Int) : Prop := Pos q x p k ∧ m 5 6 = p ∧ m 5 7 = k ∧ (m 12 0 = b.1 ∧ m 12 1 = b.2.1 ∧ m 12 2 = b.2.2) ∧ m 5 8 = Cw e x b ∧ m 5 5 = ej e ∧ (∀ s, 0 ≤ s → s < 3 → m 11 s = ez e s)
theorem At.c {m m' : Mem} {q : Pc} {e : En} {x : Int} {b : Bg} {p k : Int} (h : At m q e x b p k) (h5 : m' 5 = m 5) (h11 : m' 11 = m 11) (h12 : m' 12 = m 12) : At m' q e x b p k := by
  unfold At
  rw [h5, h11, h12]
  exact h
theorem At.bgs {m : Mem} {q : Pc} {e : En} {x : Int} {b : Bg} {p k s : Int} (h : At m q e x b p k) (hs : 0 ≤ s ∧ s < 3) : m 12 s = bg b s := by
  obtain ⟨_, _, _, ⟨h0, h1, h2⟩, _⟩ := h
  unfold bg
  rcases (show s = 0 ∨ s = 1 ∨ s = 2 by omega) with e | e | e
  · rw [e, if_pos rfl]; exact h0
  · rw [e, if_neg (by decide), if_pos rfl]; exact h1
  · rw [e, if_neg (by decide), if_neg (by decide)]; exact h2
theorem bdc_ms {m : Mem} {b : Bg} {s v : Int} (hs : 0 ≤ s ∧ s < 3) (h : m 12 0 = b.1 ∧ m 12 1 = b.2.1 ∧ m 12 2 = b.2.2) (hv : v = bg b s - 1) : ms m 12 s v 12 0 = (bdc b s).1 ∧ ms m 12 s v 12 1 = (bdc b s).2.1 ∧ ms m 12 s v 12 2 = (bdc b s).2.2 := by
  obtain ⟨h0, h1, h2⟩ := h
  unfold bg at hv
  unfold bdc
  rcases (show s = 0 ∨ s = 1 ∨ s = 2 by omega) with e | e | e
  · subst e
    rw [if_pos rfl] at hv ⊢
    rw [ms_at, ms_y (by decide), ms_y (by decide)]
    exact ⟨hv, h1, h2⟩
  · subst e
    rw [if_neg (by decide), if_pos rfl] at hv ⊢
    rw [ms_at, ms_y (by decide), ms_y (by decide)]
    exact ⟨h0, hv, h2⟩
  · subst e
    rw [if_neg (by decide), if_neg (by decide)] at hv ⊢
    rw [ms_at, ms_y (by decide), ms_y (by decide)]
    exact ⟨h0, h1, hv⟩
theorem tX0_isAslant {g : Shp} {m : Mem} {q : Pc} {z : Int → Int} {J x : Int} {b : Bg} {p k len s : Int} (hq : Wq q) (h60 : q.1 ≤ 60) (hf : PcC m q) (h : At m q (enQ z J q) x b p k) (hp : p < q.1) : T (eX0_isAslant g len s m) (fun r => r = (asl1 (enQ z J q) x len s, m)) := by
  have he := h.1.e hq (z := z) (J := J) hp
  obtain ⟨hP, h6, h7, h12, h8, h55, h11⟩ := id h
  have hp0 := hP.2.1
  have hb := hq.2.2.1 p hp0 hp
  have ha : asl (enQ z J q) x len s ↔ len = k ∧ q.2.2.1 p ≠ 0 ∧ ¬ (s = 0 ∧ len = ez (enQ z J q) 0) := by
    unfold asl
    rw [he.1, he.2]
  have fin : ∀ z0 : Int, (z0 = 1 ∧ (s = 0 ∧ len = ez (enQ z J q) 0) ∨ z0 = 0 ∧ ¬ (s = 0 ∧ len = ez (enQ z J q) 0)) → T (ebX0_isAslant_19 g len z0 m) (fun r => r = (asl1 (enQ z J q) x len s, m)) := by
    intro z0 hz
    unfold ebX0_isAslant_19 ebX0_isAslant_51 ebX0_isAslant_52
    simp only [h7, h6]
    have e1 : asl (enQ z J q) x len s → asl1 (enQ z J q) x len s = 1 := fun h => by unfold asl1; rw [if_pos h]
    have e0 : ¬ asl (enQ z J q) x len s → asl1 (enQ z J q) x len s = 0 := fun h => by unfold asl1; rw [if_neg h]
    refine T_if (fun c1 => T_ck ⟨hp0, by omega⟩ ?_) (fun c1 => T_ck (by decide) (T_some (by rw [e0 (fun q => c1 (ha.mp q).1)])))
    rw [(hf.2 p hp0 hp).2]
    refine T_if (fun c2 => T_ck (by decide) (T_some (by rw [e0 (fun q => (ha.mp q).2.1 c2)]))) (fun c2 => T_if (fun c3 => T_ck (by decide) (T_some ?_)) (fun c3 => T_ck (by decide) (T_some ?_)))
    · rw [e1 (ha.mpr ⟨c1, c2, by rcases hz with ⟨q1, _⟩ | ⟨_, q1⟩; omega; exact q1⟩)]
    · rw [e0 (fun q => ?_)]
      rcases hz with ⟨_, q1⟩ | ⟨q1, _⟩
      · exact (ha.mp q).2.2 q1
      · exact c3 q1
  unfold eX0_isAslant ebX0_isAslant_0 ebX0_isAslant_18
  refine T_if (fun c1 => T_ck (by decide) ?_) (fun c1 => fin 0 (Or.inr ⟨rfl, fun q => c1 q.1⟩))
  rw [h11 0 (by decide) (by decide)]
  exact T_if (fun c2 => fin 1 (Or.inl ⟨rfl, c1, c2⟩)) (fun c2 => fin 0 (Or.inr ⟨rfl, fun q => c2 q.2⟩))
theorem tX0_ownWorth {g : Shp} {m : Mem} {q : Pc} {z : Int → Int} {J x : Int} {b : Bg} {p k len s : Int} (hq : Wq q) (h60 : q.1 ≤ 60) (hf : PcC m q) (h : At m q (enQ z J q) x b p k) (hp : p < q.1) (hs : 0 ≤ s ∧ s < 3) : T (eX0_ownWorth g len s m) (fun r => r = (own (enQ z J q) x len s, m)) := by
  have h11 := h.2.2.2.2.2.2
  have fin : ∀ z0 : Int, z0 = (if len < ez (enQ z J q) s then 1 else 0) → T (ebX0_ownWorth_15 g len s z0 m) (fun r => r = (own (enQ z J q) x len s, m)) := by
    intro z0 hz
    unfold ebX0_ownWorth_15 ebX0_ownWorth_29
    refine T_bd2 (tX0_isAslant hq h60 hf h hp) ?_
    intro r1 m1 e1
    obtain ⟨er, em⟩ := Prod.mk.inj e1
    rw [em]
    have hz2 : 0 ≤ z0 ∧ z0 ≤ 1 := by rw [hz]; split <;> decide
    rw [own_a, ← hz]
    refine T_if (fun c => T_vv (T_some ?_)) (fun c => T_vv (T_some ?_))
    · rw [w32_id (x := z0 + 0) (by omega) (by omega), w32_id (x := (z0 + 0) * 32) (by omega) (by omega), w32_id (by omega) (by omega), ← er, c]
    · have := asl1_r (enQ z J q) x len s
      rw [w32_id (x := z0 + 1) (by omega) (by omega), w32_id (x := (z0 + 1) * 32) (by omega) (by omega), w32_id (by omega) (by omega), show asl1 (enQ z J q) x len s = 1 by omega]
  unfold eX0_ownWorth ebX0_ownWorth_0
  refine T_ck hs ?_
  rw [h11 s hs.1 hs.2]
  exact T_if (fun c => fin 0 (by rw [if_neg (by omega)])) (fun c => fin 1 (by rw [if_pos (by omega)]))
theorem tX0_isNext {g : Shp} {m : Mem} {q : Pc} {z : Int → Int} {J x : Int} {b : Bg} {p k len s : Int} (he : Eok (enQ z J q)) (hq : Wq q) (h18 : q.1 ≤ 18) (hgk : ∀ i, 0 ≤ i → i < 24 → gk g (13 + 3 * i) = 3) (hf : FwM g m q (enQ z J q)) (hw : WT m q (enQ z J q)) (h : At m q (enQ z J q) x b p k) (hb : bok b) (hC : Cw (enQ z J q) x b ≠ 1000000) (hp : p < q.1) (hs : 0 ≤ s ∧ s < 3) (hl : 1 ≤ len ∧ len ≤ k) (hz : len ≤ ez (enQ z J q) s) (hg : 0 < bg b s) :
    T (eX0_isNext g len s m) (fun r => ((r.1 = 1 ∧ Good (enQ z J q) x b len s) ∨ r.1 = 0 ∧ ¬ Good (enQ z J q) x b len s) ∧ WT r.2 q (enQ z J q) ∧ ∀ a, a ≠ m 5 2 → r.2 a = m a) := by
  have hel := h.1.e hq (z := z) (J := J) hp
  obtain ⟨hP, h6, h7, h12, h8, h55, h11⟩ := id h
  have hp0 := hP.2.1
  have hk := hP.2.2.2.1 hp
  have hk12 := (hq.2.1 p hp0 hp).2
  have hj : 0 ≤ J ∧ J ≤ 2 := he.2
  have hw5 := hf.2.2.1
  have hbg : m 12 s = bg b s := h.bgs hs
  have hbr : bg b s ≤ 6 := by
    unfold bok at hb
    unfold bg
    split
    · omega
    · split <;> omega
  have hbd := bdc_ok hb hg
  have last : ∀ (v : Int) (m1 m2 : Mem), m1 = ms m 12 s (bg b s - 1) → v = cw (Cw (enQ z J q) (aft (enQ z J q) x len) (bdc b s)) → vld (enQ z J q) x b len s → WT m2 q (enQ z J q) → (∀ a, a ≠ m1 5 2 → m2 a = m1 a) →
      T (ebX0_isNext_108 g len s v m2) (fun r => ((r.1 = 1 ∧ Good (enQ z J q) x b len s) ∨ r.1 = 0 ∧ ¬ Good (enQ z J q) x b len s) ∧ WT r.2 q (enQ z J q) ∧ ∀ a, a ≠ m 5 2 → r.2 a = m a) := by
    intro v m1 m2 em1 ev hv hw2 hm2
    have e15 : m1 5 = m 5 := by rw [em1, ms_f (by decide)]
    rw [e15] at hm2
    have e212 : m2 12 s = bg b s - 1 := by rw [hm2 12 (by omega), em1, ms_at]
    unfold ebX0_isNext_108
    rw [e212, w32_id (by omega) (by omega)]
    refine T_ck hs (T_ck hs (T_vm' (fun m3 e3 => ?_)))
    have m3m : ∀ a, a ≠ m 5 2 → m3 a = m a := by
      intro a ha
      by_cases e : a = 12
      · subst e
        funext j
        rw [e3]
        by_cases ej : j = s
        · rw [ej, ms_at, hbg]; omega
        · rw [ms_y ej, hm2 12 (by omega), em1, ms_y ej]
      · rw [e3, ms_f e, hm2 a ha, em1, ms_f e]
    have hw3 : WT m3 q (enQ z J q) := by
      unfold WT
      have e5 : m3 5 = m2 5 := by rw [e3, ms_f (by decide)]
      have e52 : m2 5 = m 5 := by rw [hm2 5 (by omega), e15]
      rw [e5, e52, e3, ms_f (by omega), ← e52]
      exact hw2
    have hf3 : PcC m3 q := (FwM.c hq hf m3m).1
    have hA3 : At m3 q (enQ z J q) x b p k := h.c (m3m 5 (by omega)) (m3m 11 (by omega)) (m3m 12 (by omega))
    refine T_bd2 (tX0_ownWorth hq (by omega) hf3 hA3 hp hs) ?_
    intro r4 m4 e4
    obtain ⟨er4, em4⟩ := Prod.mk.inj e4
    subst er4
    rw [em4]
    have ho := own_r (enQ z J q) x len s
    have hvb := Cw_vb he (x := aft (enQ z J q) x len) hbd
    have hvr : 0 ≤ v ∧ v ≤ 1048576 := by rw [ev]; unfold cw; unfold vb at hvb; split <;> omega
    rw [hA3.2.2.2.2.1, w32_id (by omega) (by omega)]
    have hvx := Cw_vb he (x := x) hb
    have hgood : Good (enQ z J q) x b len s ↔ own (enQ z J q) x len s + v = Cw (enQ z J q) x b := by
      unfold Good
      unfold vb at hvb hvx
      unfold pl
      rw [ev]
      unfold cw
      by_cases hN : Cw (enQ z J q) (aft (enQ z J q) x len) (bdc b s) = 1000000
      · rw [if_pos hN, if_pos hN]
        constructor
        · rintro ⟨_, q1⟩; exact absurd q1.symm hC
        · intro q1; omega
      · rw [if_neg hN, if_neg hN]
        constructor
        · rintro ⟨_, q1⟩; omega
        · intro q1; exact ⟨hv, by omega⟩
    unfold ebX0_isNext_141
    exact T_if (fun c => T_ck (by decide) (T_some ⟨Or.inl ⟨rfl, hgood.mpr c⟩, hw3, m3m⟩)) (fun c => T_ck (by decide) (T_some ⟨Or.inr ⟨rfl, fun q => c (hgood.mp q)⟩, hw3, m3m⟩))
  have mid : vld (enQ z J q) x b len s → (len = k ∨ J < k - len) → T (ebX0_isNext_21 g len s (k - len) m) (fun r => ((r.1 = 1 ∧ Good (enQ z J q) x b len s) ∨ r.1 = 0 ∧ ¬ Good (enQ z J q) x b len s) ∧ WT r.2 q (enQ z J q) ∧ ∀ a, a ≠ m 5 2 → r.2 a = m a) := by
    intro hv hor
    unfold ebX0_isNext_21
    rw [hbg, w32_id (by omega) (by omega)]
    refine T_ck hs (T_ck hs (T_vm' (fun m1 em1 => ?_)))
    have f1 : ∀ a, a ≠ 12 → m1 a = m a := fun a ha => by rw [em1, ms_f ha]
    have hm12 := bdc_ms (m := m) (v := bg b s - 1) hs h12 rfl
    rw [← em1] at hm12
    have hf1 : FwM g m1 q (enQ z J q) := by
      obtain ⟨g1, g2, g3, g4⟩ := hf
      refine ⟨?_, fun p' a1 a2 k' a3 a4 => ?_, by rw [f1 5 (by decide)]; exact g3, by rw [f1 5 (by decide)]; exact g4⟩
      · unfold PcC
        rw [f1 6 (by decide), f1 7 (by decide), f1 8 (by decide)]
        exact g1
      · have hr := lyA_r (k := k') (b := q.2.2.1 p') ⟨by omega, by have := (hq.2.1 p' a1 a2).2; omega⟩ (hq.2.2.1 p' a1 a2)
        exact (g2 p' a1 a2 k' a3 a4).c (fun a b1 b2 => f1 a (by omega))
    have hw1 : WT m1 q (enQ z J q) := by
      unfold WT
      rw [f1 5 (by decide), f1 _ (by omega)]
      exact hw
    have e6 : m1 5 6 = p := by rw [f1 5 (by decide)]; exact h6
    have e5 : m1 5 5 = J := by rw [f1 5 (by decide)]; exact h55
    have hx : x = lS q p + k := by rw [hP.1]; unfold lft; rw [if_pos hp]
    refine T_if (fun c => ?_) (fun c => ?_)
    · rw [e6, w32_id (by omega) (by omega)]
      refine T_bd2 (tX0_cellsOf hf1.1 (by omega) (by omega)) ?_
      intro r2 m2 e2
      obtain ⟨er2, em2⟩ := Prod.mk.inj e2
      subst er2
      rw [em2, hm12.1, hm12.2.1, hm12.2.2]
      refine T_ck (by decide) (T_ck (by decide) (T_ck (by decide) (T_bd2 (tX0_worthOf rfl he hq h18 hgk 18 (p + 1) (by omega) (by omega) 24 (by decide) (lfl q (p + 1)) (bdc b s) m1 hbd (fun hh => by unfold lfl; rw [if_pos hh]; have := hq.2.1 (p + 1) (by omega) hh; omega) hf1 hw1) ?_)))
      rintro r3 m3 ⟨u1, u2, u3⟩
      dsimp only at u1 u2 u3
      refine last r3 m1 m3 em1 ?_ hv u2 u3
      rw [u1, lft_next ⟨hp0, hp⟩]
      unfold aft
      rw [hel.1, if_pos (show len = k by omega), show x - len = lS q p by omega]
    · rw [e6, e5, hm12.1, hm12.2.1, hm12.2.2, w32_id (by omega) (by omega)]
      refine T_ck (by decide) (T_ck (by decide) (T_ck (by decide) (T_bd2 (tX0_worthOf rfl he hq h18 hgk 18 p (by omega) (by omega) 24 (by decide) (k - len - J) (bdc b s) m1 hbd (fun hh => by omega) hf1 hw1) ?_)))
      rintro r3 m3 ⟨u1, u2, u3⟩
      dsimp only at u1 u2 u3
      refine last r3 m1 m3 em1 ?_ hv u2 u3
      rw [u1]
      have ejJ : ej (enQ z J q) = J := rfl
      unfold aft lft
      rw [hel.1, if_neg (show ¬ len = k by omega), if_pos hp, ejJ, show x - len - J = lS q p + (k - len - J) by omega]
  have ejJ : ej (enQ z J q) = J := rfl
  rw [ejJ] at h55
  have hvl : (len = k ∨ J < k - len) → vld (enQ z J q) x b len s := fun hh => ⟨⟨by omega, hl.1⟩, hg, hz, by rw [hel.1, ejJ]; omega⟩
  unfold eX0_isNext ebX0_isNext_0
  rw [h7, h55, w32_id (by omega) (by omega)]
  refine T_vv (T_if (fun c => mid (hvl (Or.inl (by omega))) (Or.inl (by omega))) (fun c => T_if (fun c2 => mid (hvl (Or.inr c2)) (Or.inr c2)) (fun c2 => T_some ⟨Or.inr ⟨rfl, fun hgd => ?_⟩, hw, fun _ _ => rfl⟩)))
  have := hgd.1.2.2.2
  rw [hel.1, ejJ] at this
  omega
