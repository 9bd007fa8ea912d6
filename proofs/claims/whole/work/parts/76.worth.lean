/-! ===== what the rest of a line is worth: the program's side ===== -/
def cw (v : Int) : Int := if v = 1000000 then 1048576 else v
def slt (p : Int) (b : Bg) : Int := p * 343 + ((b.1 * 7 + b.2.1) * 7 + b.2.2)
def lyA (k b : Int) : Int := 13 + 3 * (2 * (k - 1) + b)
def WT (m : Mem) (q : Pc) (e : En) : Prop := ∀ p b, 0 ≤ p → p < q.1 → bok b → m (m 5 2) (slt p b) = -1 ∨ m (m 5 2) (slt p b) = cw (Cw e (lft q p (q.2.1 p)) b)
def Lys (m : Mem) (q : Pc) (e : En) : Prop := ∀ p, 0 ≤ p → p < q.1 → ∀ k : Nat, 1 ≤ k → (k : Int) ≤ q.2.1 p → LC m (lyA k (q.2.2.1 p)) (lay4 (ez e 0).toNat (ez e 1).toNat (ez e 2).toNat (ej e).toNat k (q.2.2.1 p).toNat)
def FwM (g : Shp) (m : Mem) (q : Pc) (e : En) : Prop := PcC m q ∧ Lys m q e ∧ (m 5 2 = 10 ∨ 267 < m 5 2) ∧ q.1 * 343 ≤ gl g (m 5 2)
theorem lyA_r {k b : Int} (hk : 1 ≤ k ∧ k ≤ 12) (hb : b = 0 ∨ b = 1) : 13 ≤ lyA k b ∧ lyA k b + 2 ≤ 84 := by unfold lyA; omega
theorem LC.c {m m' : Mem} {x : Int} {st : Nat × List Q4} (h : LC m x st) (e : ∀ a, x ≤ a → a ≤ x + 2 → m' a = m a) : LC m' x st := by
  obtain ⟨h1, h2, h3, h4, h5⟩ := h
  refine ⟨h1, h2, by rw [e x (by omega) (by omega)]; exact h3, LayM_c h4 (fun j _ => by rw [e _ (by omega) (by omega)]) (fun j _ => by rw [e _ (by omega) (by omega)]), h5⟩
theorem FwM.c {g : Shp} {m m' : Mem} {q : Pc} {e : En} (hq : Wq q) (h : FwM g m q e) (hm : ∀ a, a ≠ m 5 2 → m' a = m a) : FwM g m' q e := by
  obtain ⟨h1, h2, h3, h4⟩ := h
  have e5 : m' 5 = m 5 := hm 5 (by omega)
  refine ⟨?_, fun p p0 p1 k k1 k2 => ?_, by rw [e5]; exact h3, by rw [e5]; exact h4⟩
  · unfold PcC
    rw [hm 6 (by omega), hm 7 (by omega), hm 8 (by omega)]
    exact h1
  · have hr := lyA_r (k := k) (b := q.2.2.1 p) ⟨by omega, by have := (hq.2.1 p p0 p1).2; omega⟩ (hq.2.2.1 p p0 p1)
    exact (h2 p p0 p1 k k1 k2).c (fun a a1 a2 => hm a (by omega))
theorem slt_inj {p p' : Int} {b b' : Bg} (hb : bok b) (hb' : bok b') (h : slt p b = slt p' b') : p = p' ∧ b = b' := by
  obtain ⟨x, y, z⟩ := b
  obtain ⟨x', y', z'⟩ := b'
  unfold bok at hb hb'
  unfold slt at h
  dsimp only at hb hb' h
  have h1 : p = p' := by omega
  have h2 : x = x' := by omega
  have h3 : y = y' := by omega
  have h4 : z = z' := by omega
  exact ⟨h1, by rw [h2, h3, h4]⟩
theorem slt_r {p N : Int} {b : Bg} (hp : 0 ≤ p ∧ p < N) (hb : bok b) : 0 ≤ slt p b ∧ slt p b < N * 343 := by
  unfold bok at hb
  unfold slt
  omega
theorem tX0_cellsOf {g : Shp} {m : Mem} {q : Pc} {p : Int} (hp : PcC m q) (h0 : 0 ≤ p) (h60 : q.1 ≤ 60) : T (eX0_cellsOf g p m) (fun r => r = (lfl q p, m)) := by
  unfold eX0_cellsOf ebX0_cellsOf_0 ebX0_cellsOf_24 lfl
  rw [hp.1]
  refine T_if (fun h => T_some (by rw [if_neg (by omega)])) (fun h => T_ck ⟨h0, by omega⟩ (T_some ?_))
  rw [if_pos (by omega), (hp.2 p h0 (by omega)).1]
theorem tX0_layingsOf {g : Shp} {m : Mem} {k b : Int} (hk : 1 ≤ k ∧ k ≤ 12) (hb : b = 0 ∨ b = 1) : T (eX0_layingsOf g k b m) (fun r => r = (lyA k b, m)) := by
  unfold eX0_layingsOf ebX0_layingsOf_0 ebX0_layingsOf_18 lyA
  rw [w32_id (x := k - 1) (by omega) (by omega), w32_id (x := 2 * (k - 1)) (by omega) (by omega)]
  rw [w32_id (x := 2 * (k - 1) + 0) (by omega) (by omega), w32_id (x := 2 * (k - 1) + 1) (by omega) (by omega)]
  refine T_if (fun h => T_ck ⟨by omega, by omega⟩ (T_some ?_)) (fun h => T_ck ⟨by omega, by omega⟩ (T_some ?_))
  · rw [h]; congr 1; omega
  · rw [show b = 1 by omega]; congr 1; omega
theorem tX2_stones {g : Shp} {m : Mem} {x n : Int} {y : Q4} (hn : 0 ≤ n ∧ n < 16) (h6 : y.1 ≤ 6 ∧ y.2.1 ≤ 6 ∧ y.2.2.1 ≤ 6) (h1 : m (x + 1) (3 * n) = y.1) (h2 : m (x + 1) (3 * n + 1) = y.2.1) (h3 : m (x + 1) (3 * n + 2) = y.2.2.1) : T (eX2_stones g x n m) (fun r => r = (((y.1 + y.2.1 + y.2.2.1 : Nat) : Int), m)) := by
  unfold eX2_stones ebX2_stones_0
  rw [show n * 3 = 3 * n by omega, w32_id (x := 3 * n) (by omega) (by omega)]
  refine T_vv ?_
  have e1 : w32 (3 * n + 1) = 3 * n + 1 := w32_id (by omega) (by omega)
  have e2 : w32 (3 * n + 2) = 3 * n + 2 := w32_id (by omega) (by omega)
  simp only [e1, e2]
  refine T_ck ⟨by omega, by omega⟩ (T_ck ⟨by omega, by omega⟩ (T_ck ⟨by omega, by omega⟩ (T_some ?_)))
  rw [h1, h2, h3, w32_id (x := (y.1 : Int) + y.2.1) (by omega) (by omega), w32_id (by omega) (by omega)]
  congr 1
theorem jmin_e {a b : Int} : jmin a b = if a ≤ b then a else b := jmin_v
/-- the loop over a list: the least of what its entries and the rest are worth -/
theorem worth_loop {g : Shp} {m : Mem} {q : Pc} {e : En} {p k sl fl : Int} {b : Bg} {er : Shp → Int → Int → Int → Int → Int → Mem → Option (Int × Mem)} (he : Eok e) (hq : Wq q) (h18 : q.1 ≤ 18) (hp : 0 ≤ p ∧ p < q.1) (hk : 1 ≤ k ∧ k ≤ q.2.1 p) (hb : bok b)
    (hr : ∀ (b' : Bg) (m' : Mem), bok b' → FwM g m' q e → WT m' q e → T (er g (p + 1) (lfl q (p + 1)) b'.1 b'.2.1 b'.2.2 m') (fun r => r.1 = cw (Cw e (lS q p) b') ∧ WT r.2 q e ∧ ∀ a, a ≠ m' 5 2 → r.2 a = m' a))
    (hf : FwM g m q e) (hw : WT m q e) : T (iter (eBX0_worthOf_107 er g p b.1 b.2.1 b.2.2 sl fl (lyA k (q.2.2.1 p))) 100000 (1048576, 0, m))
      (fun r => (WT r.2.2.2 q e ∧ ∀ a, a ≠ m 5 2 → r.2.2.2 a = m a) ∧ (0 ≤ r.2.1 ∧ r.2.1 ≤ 1048576) ∧ (r.2.1 = 1048576 ∨ ∃ y, y ∈ Lk e k.toNat (q.2.2.1 p).toNat ∧ ble (yB y) b ∧ Cw e (lS q p) (bsb b y) ≠ 1000000 ∧ r.2.1 = Cw e (lS q p) (bsb b y) + yW y) ∧ ∀ y, y ∈ Lk e k.toNat (q.2.2.1 p).toNat → ble (yB y) b → Cw e (lS q p) (bsb b y) ≠ 1000000 → r.2.1 ≤ Cw e (lS q p) (bsb b y) + yW y) := by
  have hk12 := (hq.2.1 p hp.1 hp.2).2
  have hl := hf.2.1 p hp.1 hp.2 k.toNat (by omega) (by omega)
  rw [show ((k.toNat : Nat) : Int) = k by omega] at hl
  obtain ⟨l1, l2, l3, l4, l5⟩ := hl
  have hbe := hq.2.2.1 p hp.1 hp.2
  have hlr := lyA_r (k := k) (b := q.2.2.1 p) ⟨by omega, by omega⟩ hbe
  generalize hX : lyA k (q.2.2.1 p) = X at *
  have hw5 := hf.2.2.1
  have hLk : Lk e k.toNat (q.2.2.1 p).toNat = (lay4 (ez e 0).toNat (ez e 1).toNat (ez e 2).toNat (ej e).toNat k.toNat (q.2.2.1 p).toNat).2 := rfl
  rw [hLk]
  generalize hst : lay4 (ez e 0).toNat (ez e 1).toNat (ez e 2).toNat (ej e).toNat k.toNat (q.2.2.1 p).toNat = st at *
  have hbs : ∀ y : Q4, ble (yB y) b → bok (bsb b y) := by
    intro y hy
    unfold bok bsb ble yB at *
    dsimp only at *
    omega
  have hyw : ∀ y : Q4, y ∈ st.2 → 0 ≤ yW y ∧ yW y ≤ 200 := by
    intro y hy
    have := l5 y hy
    unfold yW
    omega
  refine iter2 (fun v n m' => (0 ≤ n ∧ n ≤ st.1) ∧ (WT m' q e ∧ ∀ a, a ≠ m 5 2 → m' a = m a) ∧ (0 ≤ v ∧ v ≤ 1048576) ∧ (v = 1048576 ∨ ∃ y, y ∈ st.2 ∧ ble (yB y) b ∧ Cw e (lS q p) (bsb b y) ≠ 1000000 ∧ v = Cw e (lS q p) (bsb b y) + yW y) ∧ ∀ (y : Q4) (j : Int), y ∈ st.2 → 0 ≤ j → j < n → m (X + 1) (3 * j) = y.1 → m (X + 1) (3 * j + 1) = y.2.1 → m (X + 1) (3 * j + 2) = y.2.2.1 → m (X + 2) j = y.2.2.2 → ble (yB y) b → Cw e (lS q p) (bsb b y) ≠ 1000000 → v ≤ Cw e (lS q p) (bsb b y) + yW y) (fun _ n => (st.1 - n).toNat)
    ⟨by omega, ⟨hw, fun _ _ => rfl⟩, by decide, Or.inl rfl, fun y j _ j0 j1 => by omega⟩ (by omega) ?_
  rintro v n m' ⟨n1, ⟨w1, w2⟩, w3, w4, w5⟩
  have ex : ∀ a, X ≤ a → a ≤ X + 2 → m' a = m a := fun a a1 a2 => w2 a (by omega)
  unfold eBX0_worthOf_107 ebX0_worthOf_107 ebX0_worthOf_230
  simp only
  rw [ex X (by omega) (by omega), l3]
  refine T_if (fun hc => T_out (by decide) ⟨⟨w1, w2⟩, w3, w4, fun y hy hyb hyc => ?_⟩) (fun hc => T_ck ⟨by omega, by omega⟩ ?_)
  · obtain ⟨j, j0, j1, j2, j3, j4, j5⟩ := LayM_of l4 y hy
    exact w5 y j hy j0 (by omega) j2 j3 j4 j5 hyb hyc
  · obtain ⟨y, hy, y1, y2, y3, y4⟩ := LayM_at l4 n (by omega) (by omega)
    have hy6 := l5 y hy
    have hyw' := hyw y hy
    refine T_bd2 (tX2_stones (y := y) ⟨by omega, by omega⟩ ⟨hy6.1, hy6.2.1, hy6.2.2.1⟩ (by rw [ex _ (by omega) (by omega)]; exact y1) (by rw [ex _ (by omega) (by omega)]; exact y2) (by rw [ex _ (by omega) (by omega)]; exact y3)) ?_
    intro r2 m2 e2
    obtain ⟨er2, em2⟩ := Prod.mk.inj e2
    subst er2
    rw [em2, ex (X + 2) (by omega) (by omega), y4, w32_id (x := (y.2.2.2 : Int) * 32) (by omega) (by omega), w32_id (by omega) (by omega), show (y.2.2.2 : Int) * 32 + ((y.1 + y.2.1 + y.2.2.1 : Nat) : Int) = yW y by unfold yW; omega]
    have uniq : ∀ (y' : Q4) (j : Int), j = n → m (X + 1) (3 * j) = y'.1 → m (X + 1) (3 * j + 1) = y'.2.1 → m (X + 1) (3 * j + 2) = y'.2.2.1 → m (X + 2) j = y'.2.2.2 → y' = y := by
      rintro ⟨a', b', c', d'⟩ j ej u1 u2 u3 u4
      obtain ⟨a0, b0, c0, d0⟩ := y
      subst ej
      dsimp only at u1 u2 u3 u4 y1 y2 y3 y4
      have t1 : a' = a0 := by omega
      have t2 : b' = b0 := by omega
      have t3 : c' = c0 := by omega
      have t4 : d' = d0 := by omega
      rw [t1, t2, t3, t4]
    have skip : (ble (yB y) b → Cw e (lS q p) (bsb b y) ≠ 1000000 → v ≤ Cw e (lS q p) (bsb b y) + yW y) → T (vv (w32 (n + 1)) fun y1 => some ((0 : Int), (v, y1, m'))) (G (fun s => (fun (v n : Int) (m' : Mem) => (0 ≤ n ∧ n ≤ st.1) ∧ (WT m' q e ∧ ∀ a, a ≠ m 5 2 → m' a = m a) ∧ (0 ≤ v ∧ v ≤ 1048576) ∧ (v = 1048576 ∨ ∃ y, y ∈ st.2 ∧ ble (yB y) b ∧ Cw e (lS q p) (bsb b y) ≠ 1000000 ∧ v = Cw e (lS q p) (bsb b y) + yW y) ∧ ∀ (y : Q4) (j : Int), y ∈ st.2 → 0 ≤ j → j < n → m (X + 1) (3 * j) = y.1 → m (X + 1) (3 * j + 1) = y.2.1 → m (X + 1) (3 * j + 2) = y.2.2.1 → m (X + 2) j = y.2.2.2 → ble (yB y) b → Cw e (lS q p) (bsb b y) ≠ 1000000 → v ≤ Cw e (lS q p) (bsb b y) + yW y) s.1 s.2.1 s.2.2) (fun s => (fun (_ n : Int) => (st.1 - n).toNat) s.1 s.2.1) ((fun (_ n : Int) => (st.1 - n).toNat) v n) (fun r => (WT r.2.2.2 q e ∧ ∀ a, a ≠ m 5 2 → r.2.2.2 a = m a) ∧ (0 ≤ r.2.1 ∧ r.2.1 ≤ 1048576) ∧ (r.2.1 = 1048576 ∨ ∃ y, y ∈ st.2 ∧ ble (yB y) b ∧ Cw e (lS q p) (bsb b y) ≠ 1000000 ∧ r.2.1 = Cw e (lS q p) (bsb b y) + yW y) ∧ ∀ y, y ∈ st.2 → ble (yB y) b → Cw e (lS q p) (bsb b y) ≠ 1000000 → r.2.1 ≤ Cw e (lS q p) (bsb b y) + yW y)) := by
      intro hs
      rw [w32_id (by omega) (by omega)]
      refine T_vv (T_go ⟨⟨by simp only; omega, by simp only; omega⟩, ⟨w1, w2⟩, w3, w4, fun y' j hy' j0 j1 u1 u2 u3 u4 => ?_⟩ (by simp only; omega))
      simp only at j1
      by_cases ej : j = n
      · rw [uniq y' j ej u1 u2 u3 u4]; exact hs
      · exact w5 y' j hy' j0 (by omega) u1 u2 u3 u4
    refine T_vv (T_if (fun hd => skip (fun q1 q2 => ?_)) (fun hd => T_bd2 (tX2_can ⟨by omega, by omega⟩) ?_))
    · have := Cw_top he (x := lS q p) (hbs y q1)
      omega
    · intro r3 m3 e3
      obtain ⟨er3, em3⟩ := Prod.mk.inj e3
      rw [ex (X + 1) (by omega) (by omega), y1, y2, y3] at er3
      rw [em3]
      by_cases hcan : (y.1 : Int) ≤ b.1 ∧ (y.2.1 : Int) ≤ b.2.1 ∧ (y.2.2.1 : Int) ≤ b.2.2
      · rw [if_pos hcan] at er3
        subst er3
        have hyb : ble (yB y) b := hcan
        refine T_ie (by decide) ?_
        rw [show n * 3 = 3 * n by omega, w32_id (x := 3 * n) (by omega) (by omega)]
        refine T_vv ?_
        have t1 : w32 (3 * n + 1) = 3 * n + 1 := w32_id (by omega) (by omega)
        have t2 : w32 (3 * n + 2) = 3 * n + 2 := w32_id (by omega) (by omega)
        have t3 : w32 (p + 1) = p + 1 := w32_id (by omega) (by omega)
        simp only [t1, t2, t3]
        have hf' : FwM g m' q e := FwM.c hq hf w2
        refine T_bd2 (tX0_cellsOf hf'.1 (by omega) (by omega)) ?_
        intro r4 m4 e4
        obtain ⟨er4, em4⟩ := Prod.mk.inj e4
        subst er4
        rw [em4]
        have hb6 := hbs y hyb
        have hb6' := hb6
        unfold bok bsb at hb6'
        dsimp only at hb6'
        refine T_ck ⟨by omega, by omega⟩ (T_ck ⟨by omega, by omega⟩ (T_ck ⟨by omega, by omega⟩ ?_))
        rw [ex (X + 1) (by omega) (by omega), y1, y2, y3, w32_id (x := b.1 - (y.1 : Int)) (by omega) (by omega), w32_id (x := b.2.1 - (y.2.1 : Int)) (by omega) (by omega), w32_id (x := b.2.2 - (y.2.2.1 : Int)) (by omega) (by omega)]
        refine T_bd2 (hr (bsb b y) m' hb6 hf' w1) ?_
        rintro r5 m5 ⟨v1, v2, v3⟩
        dsimp only at v1 v2 v3
        have e55 : m' 5 = m 5 := w2 5 (by clear w4 w5; omega)
        rw [e55] at v3
        have hvb := Cw_vb he (x := lS q p) hb6
        unfold vb at hvb
        have hr5 : 0 ≤ r5 ∧ r5 ≤ 1048576 := by rw [v1]; unfold cw; split <;> omega
        rw [w32_id (x := yW y + r5) (by omega) (by omega), jmin_e]
        have nw2 : ∀ a, a ≠ m 5 2 → m5 a = m a := fun a ha => (v3 a ha).trans (w2 a ha)
        by_cases hc2 : Cw e (lS q p) (bsb b y) = 1000000
        · have er5 : r5 = 1048576 := by rw [v1, hc2]; rfl
          rw [if_pos (by omega), w32_id (by omega) (by omega)]
          refine T_vv (T_vv (T_go ⟨⟨by simp only; omega, by simp only; omega⟩, ⟨v2, nw2⟩, w3, w4, fun y' j hy' j0 j1 u1 u2 u3 u4 q1 q2 => ?_⟩ (by simp only; omega)))
          simp only at j1
          by_cases ej : j = n
          · rw [uniq y' j ej u1 u2 u3 u4] at q2; exact absurd hc2 q2
          · exact w5 y' j hy' j0 (by omega) u1 u2 u3 u4 q1 q2
        · have er5 : r5 = Cw e (lS q p) (bsb b y) := by rw [v1]; unfold cw; rw [if_neg hc2]
          have hfin : ∀ v' : Int, v' ≤ v → v' ≤ yW y + r5 → (v' = v ∨ v' = yW y + r5) → T (vv v' fun y26 => vv (w32 (n + 1)) fun y1 => some ((0 : Int), (y26, y1, m5))) (G (fun s => (fun (v n : Int) (m' : Mem) => (0 ≤ n ∧ n ≤ st.1) ∧ (WT m' q e ∧ ∀ a, a ≠ m 5 2 → m' a = m a) ∧ (0 ≤ v ∧ v ≤ 1048576) ∧ (v = 1048576 ∨ ∃ y, y ∈ st.2 ∧ ble (yB y) b ∧ Cw e (lS q p) (bsb b y) ≠ 1000000 ∧ v = Cw e (lS q p) (bsb b y) + yW y) ∧ ∀ (y : Q4) (j : Int), y ∈ st.2 → 0 ≤ j → j < n → m (X + 1) (3 * j) = y.1 → m (X + 1) (3 * j + 1) = y.2.1 → m (X + 1) (3 * j + 2) = y.2.2.1 → m (X + 2) j = y.2.2.2 → ble (yB y) b → Cw e (lS q p) (bsb b y) ≠ 1000000 → v ≤ Cw e (lS q p) (bsb b y) + yW y) s.1 s.2.1 s.2.2) (fun s => (fun (_ n : Int) => (st.1 - n).toNat) s.1 s.2.1) ((fun (_ n : Int) => (st.1 - n).toNat) v n) (fun r => (WT r.2.2.2 q e ∧ ∀ a, a ≠ m 5 2 → r.2.2.2 a = m a) ∧ (0 ≤ r.2.1 ∧ r.2.1 ≤ 1048576) ∧ (r.2.1 = 1048576 ∨ ∃ y, y ∈ st.2 ∧ ble (yB y) b ∧ Cw e (lS q p) (bsb b y) ≠ 1000000 ∧ r.2.1 = Cw e (lS q p) (bsb b y) + yW y) ∧ ∀ y, y ∈ st.2 → ble (yB y) b → Cw e (lS q p) (bsb b y) ≠ 1000000 → r.2.1 ≤ Cw e (lS q p) (bsb b y) + yW y)) := by
            intro v' a1 a2 a3
            rw [w32_id (by omega) (by omega)]
            refine T_vv (T_vv (T_go ⟨⟨by simp only; omega, by simp only; omega⟩, ⟨v2, nw2⟩, ⟨by simp only; omega, by simp only; omega⟩, ?_, fun y' j hy' j0 j1 u1 u2 u3 u4 q1 q2 => ?_⟩ (by simp only; omega)))
            · simp only
              rcases a3 with a3 | a3
              · rw [a3]; exact w4
              · exact Or.inr ⟨y, hy, hyb, hc2, by omega⟩
            · simp only at j1 ⊢
              by_cases ej : j = n
              · rw [uniq y' j ej u1 u2 u3 u4] at q1 q2 ⊢; omega
              · have := w5 y' j hy' j0 (by omega) u1 u2 u3 u4 q1 q2
                omega
          by_cases hle : v ≤ yW y + r5
          · rw [if_pos hle]; exact hfin v (Int.le_refl _) hle (Or.inl rfl)
          · rw [if_neg hle]; exact hfin _ (by omega) (Int.le_refl _) (Or.inr rfl)
      · rw [if_neg hcan] at er3
        subst er3
        exact T_it rfl (skip (fun q1 => absurd q1 hcan))
