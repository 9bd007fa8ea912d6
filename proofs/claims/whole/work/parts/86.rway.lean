theorem tX11_leastAt {g : Shp} {m : Mem} {e : En} {al x : Int} {b b0 : Bg} (he : Eok e) (h : RfM m e al) (hE : Elx e al) (hx : 1 ≤ x ∧ x ≤ al) (hb : bok b) (hb0 : ble b b0) (ht : ∀ x', 0 ≤ x' → x' < x → ∀ b', bok b' → ble b' b0 → tbl m x' (cod b') = Cw e x' b') :
    T (eX11_leastAt g x (cod b) m) (fun r => r = (Cw e x b, m)) := by
  have hz2 := he.z (s := 2) (by decide)
  have hk := hE x hx.1 hx.2
  have hal := h.2.2.1
  have h1 := (h.2.2.2 x hx.1 hx.2).1
  have hj := he.2
  have hz := he.1
  let CB : Int → Int → Int := fun len s => pl (Cw e (aft e x len) (bdc b s)) (own e x len s)
  have cbv : ∀ len s, vld e x b len s → vb (CB len s) ∨ CB len s ≤ 1235 := by
    intro len s hv
    have := Cw_vb he (x := aft e x len) (bdc_ok hb hv.2.1)
    have ho := own_r e x len s
    show vb (pl _ _) ∨ pl _ _ ≤ 1235
    unfold vb at *
    unfold pl
    split <;> omega
  unfold eX11_leastAt ebX11_leastAt_0
  refine T_bdl (Q := fun r => r.2.2.2 = m ∧ r.2.1 ≤ 1000000 ∧ (r.2.1 = 1000000 ∨ ∃ len s, vld e x b len s ∧ r.2.1 = CB len s) ∧ ∀ len s, vld e x b len s → r.2.1 ≤ CB len s)
    (iter2 (fun v len m' => (1 ≤ len ∧ len ≤ 10) ∧ m' = m ∧ v ≤ 1000000 ∧ (v = 1000000 ∨ ∃ len s, vld e x b len s ∧ v = CB len s) ∧ ∀ len' s, len' < len → vld e x b len' s → v ≤ CB len' s) (fun _ len => (10 - len).toNat) ⟨by decide, rfl, by decide, Or.inl rfl, fun len' s hl hv => by have := hv.1.2; omega⟩ (by decide) ?_) ?_
  · rintro v len m' ⟨l1, rfl, l2, l3, l4⟩
    unfold eBX11_leastAt_6 ebX11_leastAt_6
    simp only
    rw [h.1 2 (by decide) (by decide), h1]
    have out : (ez e 2 < len ∨ el e x < len) → T (some ((1 : Int), (v, len, m'))) (G (fun r => (fun (v len : Int) (m'' : Mem) => (1 ≤ len ∧ len ≤ 10) ∧ m'' = m' ∧ v ≤ 1000000 ∧ (v = 1000000 ∨ ∃ len s, vld e x b len s ∧ v = CB len s) ∧ ∀ len' s, len' < len → vld e x b len' s → v ≤ CB len' s) r.1 r.2.1 r.2.2) (fun r => (fun (_ len : Int) => (10 - len).toNat) r.1 r.2.1) ((fun (_ len : Int) => (10 - len).toNat) v len) (fun r => r.2.2.2 = m' ∧ r.2.1 ≤ 1000000 ∧ (r.2.1 = 1000000 ∨ ∃ len s, vld e x b len s ∧ r.2.1 = CB len s) ∧ ∀ len s, vld e x b len s → r.2.1 ≤ CB len s)) := by
      intro ho
      refine T_out (by decide) ⟨rfl, l2, l3, fun len' s hv => l4 len' s ?_ hv⟩
      have h5 := hv.2.2.1
      have h6 := hv.2.2.2
      have h7 := hv.1.1
      rcases (show s = 0 ∨ s = 1 ∨ s = 2 by omega) with q | q | q <;> rw [q] at h5 <;> omega
    refine T_ck (by decide) (T_if (fun c => out (Or.inl c)) (fun c => T_ck ⟨by omega, by omega⟩ (T_if (fun c2 => out (Or.inr c2)) (fun c2 => ?_))))
    refine T_bdl (Q := fun r => r.2.2.2 = m' ∧ r.2.1 ≤ 1000000 ∧ (r.2.1 = 1000000 ∨ ∃ len s, vld e x b len s ∧ r.2.1 = CB len s) ∧ ∀ len' s, len' < len + 1 → vld e x b len' s → r.2.1 ≤ CB len' s)
      (iter2 (fun v2 s m'' => (0 ≤ s ∧ s ≤ 3) ∧ m'' = m' ∧ v2 ≤ v ∧ (v2 = 1000000 ∨ ∃ len s, vld e x b len s ∧ v2 = CB len s) ∧ ∀ s', s' < s → vld e x b len s' → v2 ≤ CB len s') (fun _ s => (3 - s).toNat) ⟨by decide, rfl, Int.le_refl _, l3, fun s' hs hv => by have := hv.1.1; omega⟩ (by decide) ?_) ?_
    · rintro v2 s m'' ⟨s1, rfl, s2, s3, s4⟩
      unfold eBX11_leastAt_31 ebX11_leastAt_31 ebX11_leastAt_61
      simp only
      refine T_if (fun d1 => T_out (by decide) ⟨rfl, by dsimp only; omega, s3, fun len' s' hl hv => ?_⟩) (fun d1 => ?_)
      · by_cases el' : len' = len
        · rw [el'] at hv ⊢
          exact s4 s' (by have := hv.1.1; omega) hv
        · exact Int.le_trans s2 (l4 len' s' (by omega) hv)
      · refine T_bd2 (tX11_costBy he h hE hx hb hb0 ⟨s1.1, by omega⟩ ⟨l1.1, by omega⟩ ht) ?_
        rintro r3 m3 ⟨e3, u⟩
        dsimp only at e3 u
        subst e3
        rw [w32_id (by omega) (by omega)]
        refine T_if (fun d2 => T_vv (T_go ⟨⟨by simp only; omega, by simp only; omega⟩, rfl, s2, s3, fun s' hs' hv => ?_⟩ (by simp only; omega))) (fun d2 => T_vv (T_go ⟨⟨by simp only; omega, by simp only; omega⟩, rfl, by simp only; omega, ?_, fun s' hs' hv => ?_⟩ (by simp only; omega)))
        · simp only at hs'
          by_cases es : s' = s
          · rw [es] at hv ⊢
            rcases u with ⟨_, u⟩ | ⟨u, _⟩
            · show v2 ≤ pl _ _
              rw [← u]; exact d2
            · exact absurd hv u
          · exact s4 s' (by omega) hv
        · simp only
          rcases u with ⟨u1, u2⟩ | ⟨_, u2⟩
          · exact Or.inr ⟨len, s, u1, u2⟩
          · exact Or.inl u2
        · simp only at hs' ⊢
          by_cases es : s' = s
          · rw [es] at hv ⊢
            rcases u with ⟨_, u⟩ | ⟨u, _⟩
            · show r3 ≤ pl _ _
              rw [← u]; exact Int.le_refl _
            · exact absurd hv u
          · have := s4 s' (by omega) hv
            omega
    · rintro c3 ⟨v2, s, m2⟩ ⟨e2, u1, u2, u3⟩
      dsimp only at e2 u1 u2 u3
      subst e2
      unfold ebX11_leastAt_68
      dsimp only
      rw [w32_id (by omega) (by omega)]
      exact T_vv (T_go ⟨⟨by simp only; omega, by simp only; omega⟩, rfl, u1, u2, u3⟩ (by simp only; omega))
  · rintro c ⟨v, len, m'⟩ ⟨e1, u1, u2, u3⟩
    dsimp only at e1 u1 u2 u3
    subst e1
    unfold ebX11_leastAt_74
    refine T_some ?_
    congr 1
    dsimp only
    have hC := Cw_at he (x := x) (b := b) (by omega)
    have h5 : v ≤ Cw e x b := by
      rcases hC with q | ⟨len', s', hv, q⟩
      · rw [q]; exact u1
      · rw [q]; exact u3 len' s' hv
    have h6 : Cw e x b ≤ v := by
      rcases u2 with q | ⟨len', s', hv, q⟩
      · rw [q]; exact (Cw_top he hb).2
      · rw [q]; exact Cw_le he (by omega) hv
    omega
/-- the table up to x is filled -/
def TbF (m : Mem) (e : En) (b0 : Bg) (x : Int) : Prop := ∀ x', 0 ≤ x' → x' < x → ∀ b', bok b' → ble b' b0 → tbl m x' (cod b') = Cw e x' b'
theorem tbl_c {m m' : Mem} (h1 : m' 259 = m 259) (h2 : m' 260 = m 260) (x v : Int) : tbl m' x v = tbl m x v := by unfold tbl; rw [h1, h2]
theorem tX11_table {g : Shp} {m : Mem} {e : En} {al c : Int} {b0 : Bg} (he : Eok e) (h : RfM m e al) (hE : Elx e al) (hb0 : bok b0) (hc : 0 ≤ c ∧ c ≤ 2) (hbag : m 242 (1 + 3 * c) = b0.1 ∧ m 242 (1 + 3 * c + 1) = b0.2.1 ∧ m 242 (1 + 3 * c + 2) = b0.2.2) :
    T (iter (eBX11_findWay_20 g al (1 + 3 * c)) 100000 (0, m)) (fun r => TbF r.2.2 e b0 (al + 1) ∧ ∀ a, a ≠ 259 → a ≠ 260 → r.2.2 a = m a) := by
  have hal := h.2.2.1
  refine iter1 (fun x m' => (0 ≤ x ∧ x ≤ al + 1) ∧ TbF m' e b0 x ∧ ∀ a, a ≠ 259 → a ≠ 260 → m' a = m a) (fun x => (al + 1 - x).toNat) ⟨by omega, fun x' a b => by omega, fun _ _ _ => rfl⟩ (by omega) ?_
  rintro x m' ⟨x1, x2, x3⟩
  unfold eBX11_findWay_20 ebX11_findWay_20
  simp only
  refine T_if (fun cc => T_out (by decide) ⟨?_, x3⟩) (fun cc => ?_)
  · rw [show al + 1 = x by omega]; exact x2
  · refine T_bdl (Q := fun r => TbF r.2.2 e b0 (x + 1) ∧ ∀ a, a ≠ 259 → a ≠ 260 → r.2.2 a = m a)
      (iter1 (fun v m2 => (0 ≤ v ∧ v ≤ 343) ∧ TbF m2 e b0 x ∧ (∀ b', bok b' → ble b' b0 → cod b' < v → tbl m2 x (cod b') = Cw e x b') ∧ ∀ a, a ≠ 259 → a ≠ 260 → m2 a = m a) (fun v => (343 - v).toNat) ⟨by decide, x2, fun b' hb _ hv => by have := cod_r hb; omega, x3⟩ (by decide) ?_) ?_
    · rintro v m2 ⟨v1, v2, v3, v4⟩
      unfold eBX11_findWay_29 ebX11_findWay_29
      simp only
      rw [w32_id (x := 1 + 3 * c + 1) (by omega) (by omega), w32_id (x := 1 + 3 * c + 2) (by omega) (by omega), v4 242 (by decide) (by decide), hbag.1, hbag.2.1, hbag.2.2]
      refine T_if (fun c1 => T_out (by decide) ⟨fun x' a b b' hb' hbl => ?_, v4⟩) (fun c1 => ?_)
      · by_cases ex : x' = x
        · rw [ex]; exact v3 b' hb' hbl (by have := cod_r hb'; omega)
        · exact v2 x' a (by omega) b' hb' hbl
      · rw [jdiv_n v1.1 (by decide) (by omega), jdiv_n v1.1 (by decide) (by omega), jrem_n (a := v / 7) (by omega) (by decide) (by omega), jrem_n v1.1 (by decide) (by omega)]
        have hbv : bok (v / 49, v / 7 % 7, v % 7) := by unfold bok; dsimp only; omega
        have hcv : cod (v / 49, v / 7 % 7, v % 7) = v := by unfold cod; dsimp only; omega
        have skip : ¬ ble (v / 49, v / 7 % 7, v % 7) b0 → T (ebX11_findWay_149 g al (1 + 3 * c) x v m2) (G (fun r => (fun (v : Int) (m2 : Mem) => (0 ≤ v ∧ v ≤ 343) ∧ TbF m2 e b0 x ∧ (∀ b', bok b' → ble b' b0 → cod b' < v → tbl m2 x (cod b') = Cw e x b') ∧ ∀ a, a ≠ 259 → a ≠ 260 → m2 a = m a) r.1 r.2) (fun r => (fun v : Int => (343 - v).toNat) r.1) ((fun v : Int => (343 - v).toNat) v) (fun r => TbF r.2.2 e b0 (x + 1) ∧ ∀ a, a ≠ 259 → a ≠ 260 → r.2.2 a = m a)) := by
          intro hn
          unfold ebX11_findWay_149
          rw [w32_id (by omega) (by omega)]
          refine T_vv (T_go ⟨⟨by simp only; omega, by simp only; omega⟩, v2, fun b' hb' hbl hlt => ?_, v4⟩ (by simp only; omega))
          simp only at hlt
          by_cases ev : cod b' = v
          · have := cod_inj hb' hbv (by rw [ev, hcv])
            rw [this] at hbl
            exact absurd hbl hn
          · exact v3 b' hb' hbl (by omega)
        have put : ∀ (val : Int), val = Cw e x (v / 49, v / 7 % 7, v % 7) → T (ebX11_findWay_106 g al (1 + 3 * c) x v val m2) (G (fun r => (fun (v : Int) (m2 : Mem) => (0 ≤ v ∧ v ≤ 343) ∧ TbF m2 e b0 x ∧ (∀ b', bok b' → ble b' b0 → cod b' < v → tbl m2 x (cod b') = Cw e x b') ∧ ∀ a, a ≠ 259 → a ≠ 260 → m2 a = m a) r.1 r.2) (fun r => (fun v : Int => (343 - v).toNat) r.1) ((fun v : Int => (343 - v).toNat) v) (fun r => TbF r.2.2 e b0 (x + 1) ∧ ∀ a, a ≠ 259 → a ≠ 260 → r.2.2 a = m a)) := by
          intro val hval
          unfold ebX11_findWay_106 ebX11_findWay_149
          rw [jdiv_n x1.1 (by decide) (by omega), jrem_n x1.1 (by decide) (by omega), w32_id (x := x / 2 * 343) (by omega) (by omega), w32_id (x := x / 2 * 343 + v) (by omega) (by omega), w32_id (x := v + 1) (by omega) (by omega)]
          have fin : ∀ m3 : Mem, (∀ x' v', 0 ≤ x' → 0 ≤ v' → v' < 343 → (x' ≠ x ∨ v' ≠ v) → tbl m3 x' v' = tbl m2 x' v') → tbl m3 x v = val → (∀ a, a ≠ 259 → a ≠ 260 → m3 a = m2 a) → T (vv (v + 1) fun y1 => some ((0 : Int), (y1, m3))) (G (fun r => (fun (v : Int) (m2 : Mem) => (0 ≤ v ∧ v ≤ 343) ∧ TbF m2 e b0 x ∧ (∀ b', bok b' → ble b' b0 → cod b' < v → tbl m2 x (cod b') = Cw e x b') ∧ ∀ a, a ≠ 259 → a ≠ 260 → m2 a = m a) r.1 r.2) (fun r => (fun v : Int => (343 - v).toNat) r.1) ((fun v : Int => (343 - v).toNat) v) (fun r => TbF r.2.2 e b0 (x + 1) ∧ ∀ a, a ≠ 259 → a ≠ 260 → r.2.2 a = m a)) := by
            intro m3 t1 t2 t3
            refine T_vv (T_go ⟨⟨by simp only; omega, by simp only; omega⟩, fun x' a b b' hb' hbl => ?_, fun b' hb' hbl hlt => ?_, fun a a1 a2 => ?_⟩ (by simp only; omega))
            · have hcr := cod_r hb'
              simp only
              rw [t1 x' (cod b') a hcr.1 hcr.2 (Or.inl (by omega))]
              exact v2 x' a b b' hb' hbl
            · simp only at hlt ⊢
              have hcr := cod_r hb'
              by_cases ev : cod b' = v
              · have := cod_inj hb' hbv (by rw [ev, hcv])
                rw [ev, t2, hval, this]
              · rw [t1 x (cod b') x1.1 hcr.1 hcr.2 (Or.inr ev)]
                exact v3 b' hb' hbl (by omega)
            · simp only
              rw [t3 a a1 a2]; exact v4 a a1 a2
          refine T_vv (T_if (fun c2 => T_ck ⟨by omega, by omega⟩ (T_vm' (fun m3 e3 => fin m3 (fun x' v' a b c hh => ?_) ?_ (fun a a1 a2 => by rw [e3, ms_f a1])))) (fun c2 => T_ck ⟨by omega, by omega⟩ (T_vm' (fun m3 e3 => fin m3 (fun x' v' a b c hh => ?_) ?_ (fun a a1 a2 => by rw [e3, ms_f a2])))))
          · unfold tbl
            by_cases q : x' % 2 = 0
            · rw [if_pos q, if_pos q, e3, ms_y (by omega)]
            · rw [if_neg q, if_neg q, e3, ms_x (by decide)]
          · unfold tbl; rw [if_pos c2, e3, ms_at]
          · unfold tbl
            by_cases q : x' % 2 = 0
            · rw [if_pos q, if_pos q, e3, ms_x (by decide)]
            · rw [if_neg q, if_neg q, e3, ms_y (by omega)]
          · unfold tbl; rw [if_neg c2, e3, ms_at]
        refine T_ck ⟨by omega, by omega⟩ (T_if (fun c2 => skip (fun q => by unfold ble at q; dsimp only at q; omega)) (fun c2 => T_ck ⟨by omega, by omega⟩ (T_if (fun c3 => skip (fun q => by unfold ble at q; dsimp only at q; omega)) (fun c3 => T_ck ⟨by omega, by omega⟩ (T_if (fun c4 => skip (fun q => by unfold ble at q; dsimp only at q; omega)) (fun c4 => T_if (fun c5 => put 0 (by rw [Cw_0 (by omega)])) (fun c5 => ?_)))))))
        have hle : ble (v / 49, v / 7 % 7, v % 7) b0 := ⟨by dsimp only; omega, by dsimp only; omega, by dsimp only; omega⟩
        have hRf : RfM m2 e al := h.c (v4 252 (by decide) (by decide)) (v4 242 (by decide) (by decide)) (v4 261 (by decide) (by decide)) (v4 262 (by decide) (by decide))
        have hla := tX11_leastAt (g := g) he hRf hE (x := x) ⟨by omega, by omega⟩ hbv hle v2
        rw [hcv] at hla
        refine T_bd2 hla ?_
        intro r3 m3 e3
        obtain ⟨er3, em3⟩ := Prod.mk.inj e3
        rw [em3]
        exact put r3 er3
    · rintro c3 ⟨v, m3⟩ ⟨u1, u2⟩
      dsimp only at u1 u2
      unfold ebX11_findWay_155
      dsimp only
      rw [w32_id (by omega) (by omega)]
      exact T_vv (T_go ⟨⟨by simp only; omega, by simp only; omega⟩, u1, u2⟩ (by simp only; omega))
