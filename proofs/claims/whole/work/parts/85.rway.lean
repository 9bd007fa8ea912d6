/-! ===== the reference's way: the table ===== -/
theorem tX11_layRest {g : Shp} {m : Mem} {q : Pc} (hq : Wq q) (h : PcR m q) : T (eX11_layRest g m) (fun r => r.1 = (LR q q.1.toNat).1 ∧ (∀ x, 1 ≤ x → x ≤ (LR q q.1.toNat).1 → r.2 261 x = (LR q q.1.toNat).2.1 x ∧ r.2 262 x = (LR q q.1.toNat).2.2 x) ∧ ∀ a, a ≠ 261 → a ≠ 262 → r.2 a = m a) := by
  have hN60 : q.1 ≤ 60 := by
    have := rsum_n (f := q.2.1) q.1.toNat (fun r a b => (hq.2.1 r a (by omega)).1)
    have h60 := hq.2.2.2
    have h0 := hq.1
    omega
  have h0 := hq.1
  unfold eX11_layRest ebX11_layRest_0
  rw [h.1, w32_id (by omega) (by omega)]
  refine T_vv (T_bdl (Q := fun r => r.2.1 = (LR q q.1.toNat).1 ∧ (∀ x, 1 ≤ x → x ≤ (LR q q.1.toNat).1 → r.2.2.2 261 x = (LR q q.1.toNat).2.1 x ∧ r.2.2.2 262 x = (LR q q.1.toNat).2.2 x) ∧ ∀ a, a ≠ 261 → a ≠ 262 → r.2.2.2 a = m a)
    (iter2 (fun al p m' => (-1 ≤ p ∧ p ≤ q.1 - 1) ∧ al = (LR q (q.1 - 1 - p).toNat).1 ∧ (∀ x, 1 ≤ x → x ≤ al → m' 261 x = (LR q (q.1 - 1 - p).toNat).2.1 x ∧ m' 262 x = (LR q (q.1 - 1 - p).toNat).2.2 x) ∧ ∀ a, a ≠ 261 → a ≠ 262 → m' a = m a) (fun _ p => (p + 1).toNat)
      ⟨by omega, by rw [show (q.1 - 1 - (q.1 - 1)).toNat = 0 by omega]; rfl, fun x a b => by omega, fun _ _ _ => rfl⟩ (by omega) ?_) ?_)
  · rintro al p m' ⟨p1, a1, x1, f1⟩
    unfold eBX11_layRest_9 ebX11_layRest_9
    simp only
    refine T_if (fun c => T_out (by decide) ⟨?_, ?_, f1⟩) (fun c => ?_)
    · rw [a1, show (q.1 - 1 - p).toNat = q.1.toNat by omega]
    · rw [a1, show (q.1 - 1 - p).toNat = q.1.toNat by omega] at x1
      exact x1
    · have hl := hq.2.1 p (by omega) (by omega)
      have hb := hq.2.2.1 p (by omega) (by omega)
      obtain ⟨j, hj⟩ : ∃ j : Nat, q.1 - 1 - p = j := ⟨(q.1 - 1 - p).toNat, by omega⟩
      rw [show (q.1 - 1 - p).toNat = j by omega] at a1 x1
      have hs1 := LR_sum hq (j + 1) (by omega)
      have hs2 : (LR q (j + 1)).1 = (LR q j).1 + q.2.1 p := by
        show (LR q j).1 + q.2.1 (q.1 - 1 - j) = _
        rw [show q.1 - 1 - (j : Int) = p by omega]
      have hs3 := rsum_0 (f := q.2.1) (q.1.toNat - (j + 1)) (fun r a b => by have := (hq.2.1 r a (by omega)).1; omega)
      have hs4 := hq.2.2.2
      have hs5 := LR_0 hq (j := j) (by omega)
      have e257 : m' 257 p = q.2.1 p := by rw [f1 257 (by decide) (by decide)]; exact (h.2 p (by omega) (by omega)).1
      have e258 : m' 258 p = q.2.2.1 p := by rw [f1 258 (by decide) (by decide)]; exact (h.2 p (by omega) (by omega)).2
      refine T_bdl (Q := fun r => (∀ x, al < x → x ≤ al + q.2.1 p → r.2.2 261 x = x - al ∧ r.2.2 262 x = q.2.2.1 p) ∧ (∀ x, x ≤ al → r.2.2 261 x = m' 261 x ∧ r.2.2 262 x = m' 262 x) ∧ ∀ a, a ≠ 261 → a ≠ 262 → r.2.2 a = m' a)
        (iter1 (fun k m2 => (1 ≤ k ∧ k ≤ q.2.1 p + 1) ∧ (∀ x, al < x → x < al + k → m2 261 x = x - al ∧ m2 262 x = q.2.2.1 p) ∧ (∀ x, x ≤ al → m2 261 x = m' 261 x ∧ m2 262 x = m' 262 x) ∧ ∀ a, a ≠ 261 → a ≠ 262 → m2 a = m' a) (fun k => (q.2.1 p + 1 - k).toNat) ⟨by omega, fun x a b => by omega, fun _ _ => ⟨rfl, rfl⟩, fun _ _ _ => rfl⟩ (by omega) ?_) ?_
      · rintro k m2 ⟨k1, k2, k3, k4⟩
        unfold eBX11_layRest_15 ebX11_layRest_15
        simp only
        rw [k4 257 (by decide) (by decide), e257, w32_id (x := al + k) (by omega) (by omega)]
        refine T_ck ⟨by omega, by omega⟩ (T_if (fun c => T_out (by decide) ⟨fun x a b => k2 x a (by omega), k3, k4⟩) (fun c => T_ck ⟨by omega, by omega⟩ (T_vm' (fun m3 e3 => T_ck ⟨by omega, by omega⟩ (T_ck ⟨by omega, by omega⟩ ?_)))))
        have e3b : m3 258 p = q.2.2.1 p := by rw [e3, ms_x (by decide), k4 258 (by decide) (by decide)]; exact e258
        rw [e3b, w32_id (x := k + 1) (by omega) (by omega)]
        refine T_ck hb (T_vm' (fun m4 e4 => T_vv (T_go ⟨⟨by simp only; omega, by simp only; omega⟩, fun x a b => ?_, fun x a => ?_, fun a a1 a2 => ?_⟩ (by simp only; omega))))
        · simp only at b ⊢
          by_cases ex : x = al + k
          · rw [ex, e4, ms_x (by decide), ms_at, e3, ms_at]; exact ⟨by omega, rfl⟩
          · rw [e4, ms_x (by decide), ms_y ex, e3, ms_y ex, ms_x (by decide)]; exact k2 x a (by omega)
        · simp only
          rw [e4, ms_x (by decide), ms_y (by omega), e3, ms_y (by omega), ms_x (by decide)]; exact k3 x a
        · simp only
          rw [e4, ms_f a2, e3, ms_f a1]; exact k4 a a1 a2
      · rintro c3 ⟨k, m3⟩ ⟨q1, q2, q3⟩
        dsimp only at q1 q2 q3
        unfold ebX11_layRest_54
        dsimp only
        rw [q3 257 (by decide) (by decide), e257, w32_id (by omega) (by omega), show p + (-1) = p - 1 by omega, w32_id (by omega) (by omega)]
        refine T_ck ⟨by omega, by omega⟩ (T_vv (T_vv (T_go ⟨⟨by simp only; omega, by simp only; omega⟩, ?_, fun x a b => ?_, fun a a1 a2 => ?_⟩ (by simp only; omega))))
        · simp only
          rw [show (q.1 - 1 - (p - 1)).toNat = j + 1 by omega, hs2, a1]
        · simp only at b ⊢
          rw [show (q.1 - 1 - (p - 1)).toNat = j + 1 by omega]
          show m3 261 x = (if (LR q j).1 < x ∧ x ≤ (LR q j).1 + q.2.1 (q.1 - 1 - j) then x - (LR q j).1 else (LR q j).2.1 x) ∧ m3 262 x = (if (LR q j).1 < x ∧ x ≤ (LR q j).1 + q.2.1 (q.1 - 1 - j) then q.2.2.1 (q.1 - 1 - j) else (LR q j).2.2 x)
          rw [show q.1 - 1 - (j : Int) = p by omega]
          by_cases hx : x ≤ al
          · rw [if_neg (by omega), if_neg (by omega), (q2 x hx).1, (q2 x hx).2]
            exact x1 x a hx
          · rw [if_pos (by omega), if_pos (by omega), (q1 x (by omega) b).1, (q1 x (by omega) b).2, a1]
            exact ⟨rfl, rfl⟩
        · simp only
          rw [q3 a a1 a2]; exact f1 a a1 a2
  · rintro c ⟨al, p, m'⟩ hh
    exact T_some hh
def tbl (m : Mem) (x v : Int) : Int := if x % 2 = 0 then m 259 (x / 2 * 343 + v) else m 260 (x / 2 * 343 + v)
def cod (b : Bg) : Int := 49 * b.1 + 7 * b.2.1 + b.2.2
theorem cod_r {b : Bg} (h : bok b) : 0 ≤ cod b ∧ cod b < 343 := by unfold bok at h; unfold cod; omega
theorem cod_inj {b b' : Bg} (hb : bok b) (hb' : bok b') (h : cod b = cod b') : b = b' := by
  obtain ⟨x, y, z⟩ := b
  obtain ⟨x', y', z'⟩ := b'
  unfold bok at hb hb'
  unfold cod at h
  dsimp only at hb hb' h
  have h2 : x = x' := by omega
  have h3 : y = y' := by omega
  have h4 : z = z' := by omega
  rw [h2, h3, h4]
theorem tX11_costAt {g : Shp} {m : Mem} {x v : Int} (hx : 0 ≤ x ∧ x ≤ 60) (hv : 0 ≤ v ∧ v < 343) : T (eX11_costAt g x v m) (fun r => r = (tbl m x v, m)) := by
  unfold eX11_costAt ebX11_costAt_0 ebX11_costAt_31
  rw [jdiv_n hx.1 (by decide) (by omega), jrem_n hx.1 (by decide) (by omega), w32_id (x := x / 2 * 343) (by omega) (by omega), w32_id (by omega) (by omega)]
  unfold tbl
  refine T_vv (T_if (fun c => T_ck ⟨by omega, by omega⟩ (T_some (by rw [if_pos c]))) (fun c => T_ck ⟨by omega, by omega⟩ (T_some (by rw [if_neg c]))))
def oneI (s : Int) : Int := if s = 0 then 49 else if s = 1 then 7 else 1
theorem tX11_oneOf {g : Shp} {m : Mem} {s : Int} : T (eX11_oneOf g s m) (fun r => r = (oneI s, m)) := by
  unfold eX11_oneOf ebX11_oneOf_0 ebX11_oneOf_20 oneI
  exact T_if (fun c => T_some (by rw [if_pos c])) (fun c => T_if (fun c2 => T_some (by rw [if_neg c, if_pos c2])) (fun c2 => T_some (by rw [if_neg c, if_neg c2])))
theorem cod_dc {b : Bg} {s : Int} : cod b - oneI s = cod (bdc b s) := by
  unfold cod oneI bdc
  split
  · dsimp only; omega
  · split <;> dsimp only <;> omega
theorem cod_bg {b : Bg} {s : Int} (h : bok b) (hs : 0 ≤ s ∧ s ≤ 2) : cod b / oneI s % 7 = bg b s := by
  unfold bok at h
  unfold cod oneI bg
  rcases (show s = 0 ∨ s = 1 ∨ s = 2 by omega) with q | q | q <;> subst q
  · rw [if_pos rfl, if_pos rfl]; omega
  · rw [if_neg (by decide), if_pos rfl, if_neg (by decide), if_pos rfl]; omega
  · rw [if_neg (by decide), if_neg (by decide), if_neg (by decide), if_neg (by decide)]; omega
/-- the reference stands ready: sizes, joint, cells left -/
def RfM (m : Mem) (e : En) (al : Int) : Prop := (∀ s, 0 ≤ s → s < 3 → m 252 s = ez e s) ∧ m 242 0 = ej e ∧ (0 ≤ al ∧ al ≤ 60) ∧ ∀ x, 1 ≤ x → x ≤ al → m 261 x = el e x ∧ m 262 x = eb e x
theorem RfM.c {m m' : Mem} {e : En} {al : Int} (h : RfM m e al) (h1 : m' 252 = m 252) (h2 : m' 242 = m 242) (h3 : m' 261 = m 261) (h4 : m' 262 = m 262) : RfM m' e al := by
  unfold RfM
  rw [h1, h2, h3, h4]
  exact h
/-- a place of the line: so many cells of the piece, and what lies behind it -/
def Elx (e : En) (al : Int) : Prop := ∀ x, 1 ≤ x → x ≤ al → 1 ≤ el e x ∧ el e x ≤ 12 ∧ el e x ≤ x
theorem tX11_isCutAslant {g : Shp} {m : Mem} {e : En} {al x len s : Int} (h : RfM m e al) (hx : 1 ≤ x ∧ x ≤ al) : T (eX11_isCutAslant g x len s m) (fun r => r = (asl1 e x len s, m)) := by
  have h1 := (h.2.2.2 x hx.1 hx.2).1
  have h2 := (h.2.2.2 x hx.1 hx.2).2
  have e1 : asl e x len s → asl1 e x len s = 1 := fun h => by unfold asl1; rw [if_pos h]
  have e0 : ¬ asl e x len s → asl1 e x len s = 0 := fun h => by unfold asl1; rw [if_neg h]
  have hal := h.2.2.1
  unfold eX11_isCutAslant ebX11_isCutAslant_0 ebX11_isCutAslant_33 ebX11_isCutAslant_37 ebX11_isCutAslant_38
  rw [h1, h2, h.1 0 (by decide) (by decide)]
  refine T_ck ⟨by omega, by omega⟩ (T_if (fun c => T_ck ⟨by omega, by omega⟩ (T_if (fun c2 => T_ck (by decide) (T_some ?_)) (fun c2 => T_if (fun c3 => T_ck (by decide) (T_if (fun c4 => T_ck (by decide) (T_some ?_)) (fun c4 => T_ck (by decide) (T_some ?_)))) (fun c3 => T_ck (by decide) (T_some ?_))))) (fun c => T_ck (by decide) (T_some ?_)))
  · rw [e0 (fun q => q.2.1 c2)]
  · rw [e0 (fun q => q.2.2 ⟨c3, c4⟩)]
  · rw [e1 ⟨c, c2, fun q => c4 q.2⟩]
  · rw [e1 ⟨c, c2, fun q => c3 q.1⟩]
  · rw [e0 (fun q => c q.1)]
theorem tX11_costBy {g : Shp} {m : Mem} {e : En} {al x len s : Int} {b b0 : Bg} (he : Eok e) (h : RfM m e al) (hE : Elx e al) (hx : 1 ≤ x ∧ x ≤ al) (hb : bok b) (hb0 : ble b b0) (hs : 0 ≤ s ∧ s ≤ 2) (hl : 1 ≤ len ∧ len ≤ 9) (ht : ∀ x', 0 ≤ x' → x' < x → ∀ b', bok b' → ble b' b0 → tbl m x' (cod b') = Cw e x' b') :
    T (eX11_costBy g x (cod b) len s m) (fun r => r.2 = m ∧ ((vld e x b len s ∧ r.1 = pl (Cw e (aft e x len) (bdc b s)) (own e x len s)) ∨ ¬ vld e x b len s ∧ r.1 = 1000000)) := by
  have h1 := (h.2.2.2 x hx.1 hx.2).1
  have hal := h.2.2.1
  have hk := hE x hx.1 hx.2
  have hj := he.2
  have hcr := cod_r hb
  have no : ¬ vld e x b len s → T (ebX11_costBy_55 g m) (fun r => r.2 = m ∧ ((vld e x b len s ∧ r.1 = pl (Cw e (aft e x len) (bdc b s)) (own e x len s)) ∨ ¬ vld e x b len s ∧ r.1 = 1000000)) := fun h => T_some ⟨rfl, Or.inr ⟨h, rfl⟩⟩
  have mid : vld e x b len s → T (ebX11_costBy_58 g x (cod b) len s (el e x - len) m) (fun r => r.2 = m ∧ ((vld e x b len s ∧ r.1 = pl (Cw e (aft e x len) (bdc b s)) (own e x len s)) ∨ ¬ vld e x b len s ∧ r.1 = 1000000)) := by
    intro hv
    have hbd := bdc_ok hb hv.2.1
    have hcd := cod_r hbd
    have hvb := Cw_vb he (x := aft e x len) hbd
    have hlt := aft_lt he hv
    have hbl : ble (bdc b s) b0 := by
      have : ble (bdc b s) b := by
        rw [bdc_un]
        have := unb_r s
        unfold ble
        dsimp only
        omega
      unfold ble at *
      omega
    have ha0 : 0 ≤ aft e x len := by
      have := hv.2.2.2
      unfold aft
      split <;> omega
    have hso : ∀ z1 z2 : Int, z1 - z2 = aft e x len → T (ebX11_costBy_77 g x (cod b) len s z1 z2 m) (fun r => r.2 = m ∧ ((vld e x b len s ∧ r.1 = pl (Cw e (aft e x len) (bdc b s)) (own e x len s)) ∨ ¬ vld e x b len s ∧ r.1 = 1000000)) := by
      intro z1 z2 hz
      unfold ebX11_costBy_77
      refine T_bd2 tX11_oneOf ?_
      intro r1 m1 e1
      obtain ⟨er1, em1⟩ := Prod.mk.inj e1
      rw [er1, em1, hz, cod_dc, w32_id (by omega) (by omega), w32_id (by omega) (by omega)]
      refine T_bd2 (tX11_costAt ⟨ha0, by omega⟩ hcd) ?_
      intro r2 m2 e2
      obtain ⟨er2, em2⟩ := Prod.mk.inj e2
      rw [er2, em2, ht _ ha0 hlt _ hbd hbl]
      have fin : ∀ z0 : Int, z0 = (if len < ez e s then 1 else 0) → T (ebX11_costBy_106 g x len s (Cw e (aft e x len) (bdc b s)) z0 m) (fun r => r.2 = m ∧ ((vld e x b len s ∧ r.1 = pl (Cw e (aft e x len) (bdc b s)) (own e x len s)) ∨ ¬ vld e x b len s ∧ r.1 = 1000000)) := by
        intro z0 hz0
        unfold ebX11_costBy_106
        refine T_bd2 (tX11_isCutAslant h hx) ?_
        intro r3 m3 e3
        obtain ⟨er3, em3⟩ := Prod.mk.inj e3
        rw [em3]
        have hz01 : 0 ≤ z0 ∧ z0 ≤ 1 := by rw [hz0]; split <;> decide
        have go : ∀ z1 : Int, z1 = asl1 e x len s → T (ebX11_costBy_122 g (Cw e (aft e x len) (bdc b s)) z0 z1 m) (fun r => r.2 = m ∧ ((vld e x b len s ∧ r.1 = pl (Cw e (aft e x len) (bdc b s)) (own e x len s)) ∨ ¬ vld e x b len s ∧ r.1 = 1000000)) := by
          intro z1 hz1
          have hz11 := asl1_r e x len s
          rw [← hz1] at hz11
          unfold ebX11_costBy_122 ebX11_costBy_147
          unfold vb at hvb
          rw [w32_id (x := z0 + z1) (by omega) (by omega)]
          refine T_vv (T_if (fun c => T_some ⟨rfl, Or.inl ⟨hv, ?_⟩⟩) (fun c => T_some ⟨rfl, Or.inl ⟨hv, ?_⟩⟩))
          · unfold pl; rw [if_pos c]
          · unfold pl
            rw [if_neg c, own_a, ← hz0, ← hz1]
            dsimp only
            rw [w32_id (x := 32 * (z0 + z1)) (by omega) (by omega), w32_id (x := Cw e (aft e x len) (bdc b s) + 32 * (z0 + z1)) (by omega) (by omega), w32_id (by omega) (by omega)]
            omega
        refine T_if (fun c => go 0 (by omega)) (fun c => go 1 ?_)
        have := asl1_r e x len s
        omega
      refine T_ck ⟨by omega, by omega⟩ ?_
      rw [h.1 s hs.1 (by omega)]
      exact T_if (fun c => fin 0 (by rw [if_neg (by omega)])) (fun c => fin 1 (by rw [if_pos (by omega)]))
    unfold ebX11_costBy_58
    rw [w32_id (x := x - len) (by omega) (by omega)]
    have hv5 := hv.2.2.2
    refine T_if (fun c => hso _ _ ?_) (fun c => T_ck (by decide) (hso _ _ ?_))
    · unfold aft; rw [if_pos (by omega)]; omega
    · unfold aft; rw [if_neg (by omega), h.2.1]
  unfold eX11_costBy ebX11_costBy_0
  rw [h1, w32_id (by omega) (by omega)]
  refine T_ck ⟨by omega, by omega⟩ (T_vv (T_bd2 tX11_oneOf ?_))
  intro r1 m1 e1
  obtain ⟨er1, em1⟩ := Prod.mk.inj e1
  have hone : 1 ≤ oneI s ∧ oneI s ≤ 49 := by unfold oneI; split <;> (try split) <;> omega
  rw [er1, em1, h.1 s hs.1 (by omega), h.2.1]
  refine T_ck (by omega) ?_
  have hdv : jdiv (cod b) (oneI s) = cod b / oneI s := jdiv_n hcr.1 (by omega) (by omega)
  have hd0 : 0 ≤ cod b / oneI s := Int.ediv_nonneg hcr.1 (by omega)
  have hd1 : cod b / oneI s ≤ cod b := Int.ediv_le_self _ hcr.1
  rw [hdv, jrem_n hd0 (by decide) (by omega), cod_bg hb hs]
  refine T_if (fun c => no (fun q => by have := q.2.1; omega)) (fun c => T_ck ⟨by omega, by omega⟩ (T_if (fun c2 => no (fun q => by have := q.2.2.1; omega)) (fun c2 => T_if (fun c3 => no (fun q => by have := q.2.2.2; omega)) (fun c3 => T_if (fun c4 => mid ?_) (fun c4 => T_ck (by decide) (T_if (fun c5 => mid ?_) (fun c5 => no (fun q => by have := q.2.2.2; omega))))))))
  · have hbg : 0 ≤ bg b s := by
      unfold bok at hb
      unfold bg
      split
      · omega
      · split <;> omega
    exact ⟨⟨hs, hl.1⟩, by omega, by omega, Or.inl (by omega)⟩
  · have hbg : 0 ≤ bg b s := by
      unfold bok at hb
      unfold bg
      split
      · omega
      · split <;> omega
    exact ⟨⟨hs, hl.1⟩, by omega, by omega, Or.inr (by omega)⟩
