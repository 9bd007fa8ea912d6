/-! ===== a way: its stones by length, size and whether they are cut aslant ===== -/
def nsum (f : Nat → Int) : Nat → Int
  | 0 => 0
  | n + 1 => nsum f n + f n
theorem nsum_b {f : Nat → Int} {c : Int} : ∀ n : Nat, (∀ i : Nat, i < n → 0 ≤ f i ∧ f i ≤ c) → 0 ≤ nsum f n ∧ nsum f n ≤ c * n
  | 0, _ => by simp [nsum]
  | n + 1, h => by
    have h1 := nsum_b n (fun i hi => h i (by omega))
    have h2 := h n (by omega)
    have h3 : c * ((n + 1 : Nat) : Int) = c * n + c := by rw [Int.natCast_add, Int.mul_add]; omega
    show 0 ≤ nsum f n + f n ∧ nsum f n + f n ≤ _
    omega
theorem nsum_c {f f' : Nat → Int} : ∀ n : Nat, (∀ i : Nat, i < n → f i = f' i) → nsum f n = nsum f' n
  | 0, _ => rfl
  | n + 1, h => by
    show nsum f n + f n = nsum f' n + f' n
    rw [nsum_c n (fun i hi => h i (by omega)), h n (by omega)]
abbrev Sq : Type := (Nat → Int) × (Nat → Int) × (Nat → Int)
def wbad (z : Int → Int) (q : Sq) (i : Nat) : Prop := q.1 i < z (q.2.1 i) ∨ q.2.2 i ≠ 0
def wcode (z : Int → Int) (q : Sq) (i : Nat) : Int := 20 * q.1 i + 2 * q.2.1 i + (if q.1 i < z (q.2.1 i) then 1 else 0)
def wused (q : Sq) (s : Int) (i : Nat) : Int := if q.2.1 i = s then 1 else 0
def wsnd (z : Int → Int) (q : Sq) (s : Int) (i : Nat) : Int := if q.2.1 i = s ∧ ¬ q.1 i < z (q.2.1 i) ∧ q.2.2 i = 0 then 1 else 0
def wspo (z : Int → Int) (q : Sq) (i : Nat) : Int := if ¬ q.1 i < z (q.2.1 i) ∧ q.2.2 i = 0 then 0 else q.1 i
def woff (z : Int → Int) (q : Sq) (i : Nat) : Int := z (q.2.1 i) - q.1 i
def WSq (z : Int → Int) (q : Sq) (n : Nat) : Prop := ∀ i : Nat, i < n → (0 ≤ q.2.1 i ∧ q.2.1 i ≤ 2) ∧ (1 ≤ q.1 i ∧ q.1 i ≤ z (q.2.1 i) ∧ z (q.2.1 i) ≤ 9) ∧ (q.2.2 i = 0 ∨ q.2.2 i = 1)
def WayN (m : Mem) (w : Int) (z : Int → Int) (q : Sq) (n : Nat) : Prop := m w 4 = n ∧ (∀ i : Nat, i < n → m (w + 1) i = wcode z q i) ∧ (∀ s, 0 ≤ s → s < 3 → m (w + 2) s = nsum (wused q s) n ∧ m (w + 3) s = nsum (wsnd z q s) n) ∧ m w 3 = nsum (wspo z q) n ∧ m w 6 = nsum (woff z q) n
theorem WayN.c {m m' : Mem} {w : Int} {z : Int → Int} {q : Sq} {n : Nat} (h : WayN m w z q n) (e : ∀ a, w ≤ a → a ≤ w + 3 → m' a = m a) : WayN m' w z q n := by
  unfold WayN
  rw [e w (by omega) (by omega), e (w + 1) (by omega) (by omega), e (w + 2) (by omega) (by omega), e (w + 3) (by omega) (by omega)]
  exact h
theorem WSq.b {z : Int → Int} {q : Sq} {n : Nat} (h : WSq z q n) (hn : n ≤ 18) : (∀ s, 0 ≤ nsum (wused q s) n ∧ nsum (wused q s) n ≤ n) ∧ (∀ s, 0 ≤ nsum (wsnd z q s) n ∧ nsum (wsnd z q s) n ≤ n) ∧ (0 ≤ nsum (wspo z q) n ∧ nsum (wspo z q) n ≤ 162) ∧ (0 ≤ nsum (woff z q) n ∧ nsum (woff z q) n ≤ 162) := by
  refine ⟨fun s => ?_, fun s => ?_, ?_, ?_⟩
  · have := nsum_b (f := wused q s) (c := 1) n (fun i _ => by unfold wused; split <;> decide)
    omega
  · have := nsum_b (f := wsnd z q s) (c := 1) n (fun i _ => by unfold wsnd; split <;> decide)
    omega
  · have := nsum_b (f := wspo z q) (c := 9) n (fun i hi => by have := h i hi; unfold wspo; split <;> omega)
    omega
  · have := nsum_b (f := woff z q) (c := 9) n (fun i hi => by have := h i hi; unfold woff; omega)
    omega
theorem tX9_add {g : Shp} {m : Mem} {w len s zs a : Int} {z : Int → Int} {q : Sq} {n : Nat} (hg : gl g (w + 1) = 18) (hn : n < 18) (hw : WSq z q (n + 1)) (h : WayN m w z q n) (e1 : len = q.1 n) (e2 : s = q.2.1 n) (e3 : a = q.2.2 n) (e4 : zs = z (q.2.1 n)) :
    T (eX9_add g w len s zs a m) (fun r => WayN r.2 w z q (n + 1) ∧ (∀ b, b ≠ 3 → b ≠ 4 → b ≠ 6 → r.2 w b = m w b) ∧ ∀ x, (x < w ∨ w + 3 < x) → r.2 x = m x) := by
  obtain ⟨h4, hst, hus, h3, h6⟩ := id h
  obtain ⟨⟨s0, s2⟩, ⟨l1, l2, l3⟩, hA⟩ := hw n (by omega)
  have hb := WSq.b (n := n) (fun i hi => hw i (by omega)) (by omega)
  rw [← e1, ← e4] at l2
  rw [← e1] at l1
  rw [← e4] at l3
  rw [← e2] at s0 s2
  rw [← e3] at hA
  have hun := (hus s s0 (by omega)).1
  have hsn := (hus s s0 (by omega)).2
  have hub := hb.1 s
  have hsb := hb.2.1 s
  have main : ∀ c : Int, c = (if len < zs then 1 else 0) → T (ebX9_add_48 g w len s zs a c (w + 1) (m w 4) (w32 ((w32 (20 * len)) + (w32 (2 * s)))) c m) (fun r => WayN r.2 w z q (n + 1) ∧ (∀ b, b ≠ 3 → b ≠ 4 → b ≠ 6 → r.2 w b = m w b) ∧ ∀ x, (x < w ∨ w + 3 < x) → r.2 x = m x) := by
    intro c hc
    have hc01 : c = 0 ∨ c = 1 := by rw [hc]; split <;> decide
    unfold ebX9_add_48
    rw [h4, w32_id (x := 20 * len) (by omega) (by omega), w32_id (x := 2 * s) (by omega) (by omega), w32_id (x := 20 * len + 2 * s) (by omega) (by omega), w32_id (x := 20 * len + 2 * s + c) (by omega) (by omega), w32_id (x := zs - len) (by omega) (by omega)]
    refine T_ck ⟨by omega, by omega⟩ (T_vm' (fun m1 e1' => ?_))
    rw [show m1 w 4 = n by rw [e1', ms_x (by omega)]; exact h4, w32_id (by omega) (by omega)]
    refine T_vm' (fun m2 e2' => ?_)
    rw [show m2 (w + 2) s = nsum (wused q s) n by rw [e2', ms_x (by omega), e1', ms_x (by omega)]; exact hun, w32_id (by omega) (by omega)]
    refine T_ck ⟨by omega, by omega⟩ (T_ck ⟨by omega, by omega⟩ (T_vm' (fun m3 e3' => ?_)))
    rw [show m3 w 6 = nsum (woff z q) n by rw [e3', ms_x (by omega), e2', ms_y (by decide), e1', ms_x (by omega)]; exact h6, w32_id (by omega) (by omega)]
    refine T_vm' (fun m4 e4' => ?_)
    have g4 : m4 w 4 = (n : Int) + 1 := by rw [e4', ms_y (by decide), e3', ms_x (by omega), e2', ms_at]
    have g6 : m4 w 6 = nsum (woff z q) (n + 1) := by
      rw [e4', ms_at]
      show _ = nsum (woff z q) n + woff z q n
      unfold woff
      rw [← e4, ← e1]
    have g3 : m4 w 3 = nsum (wspo z q) n := by rw [e4', ms_y (by decide), e3', ms_x (by omega), e2', ms_y (by decide), e1', ms_x (by omega)]; exact h3
    have gst : ∀ i : Nat, i < n + 1 → m4 (w + 1) i = wcode z q i := by
      intro i hi
      rw [e4', ms_x (by omega), e3', ms_x (by omega), e2', ms_x (by omega), e1']
      by_cases ei : i = n
      · subst ei
        rw [ms_at]
        unfold wcode
        rw [← e4, ← e1, ← e2, hc]
      · rw [ms_y (by omega)]; exact hst i (by omega)
    have gus : ∀ s', 0 ≤ s' → s' < 3 → m4 (w + 2) s' = nsum (wused q s') (n + 1) := by
      intro s' a1 a2
      rw [e4', ms_x (by omega), e3']
      show _ = nsum (wused q s') n + wused q s' n
      unfold wused
      rw [← e2]
      by_cases es : s' = s
      · rw [es, ms_at, if_pos rfl]
      · rw [ms_y es, if_neg (fun q => es q.symm), e2', ms_x (by omega), e1', ms_x (by omega), (hus s' a1 a2).1]
        show nsum (wused q s') n = nsum (wused q s') n + 0
        omega
    have gsn : ∀ s', m4 (w + 3) s' = m (w + 3) s' := by
      intro s'
      rw [e4', ms_x (by omega), e3', ms_x (by omega), e2', ms_x (by omega), e1', ms_x (by omega)]
    have gw : ∀ b, b ≠ 4 → b ≠ 6 → m4 w b = m w b := fun b b1 b2 => by rw [e4', ms_y b2, e3', ms_x (by omega), e2', ms_y b1, e1', ms_x (by omega)]
    have gf : ∀ x, (x < w ∨ w + 3 < x) → m4 x = m x := fun x hx => by rw [e4', ms_f (by omega), e3', ms_f (by omega), e2', ms_f (by omega), e1', ms_f (by omega)]
    have bad : ¬ (¬ len < zs ∧ a = 0) → T (ebX9_add_92 g w len m4) (fun r => WayN r.2 w z q (n + 1) ∧ (∀ b, b ≠ 3 → b ≠ 4 → b ≠ 6 → r.2 w b = m w b) ∧ ∀ x, (x < w ∨ w + 3 < x) → r.2 x = m x) := by
      intro hbd
      unfold ebX9_add_92 ebX9_add_115
      rw [g3, w32_id (by omega) (by omega)]
      refine T_vm' (fun m5 e5' => T_some ⟨⟨?_, fun i hi => ?_, fun s' a1 a2 => ⟨?_, ?_⟩, ?_, ?_⟩, fun b b1 b2 b3 => ?_, fun x hx => ?_⟩)
      · dsimp only; rw [e5', ms_y (by decide), g4]; omega
      · dsimp only; rw [e5', ms_x (by omega)]; exact gst i hi
      · dsimp only; rw [e5', ms_x (by omega)]; exact gus s' a1 a2
      · dsimp only
        rw [e5', ms_x (by omega), gsn s', (hus s' a1 a2).2]
        show nsum (wsnd z q s') n = nsum (wsnd z q s') n + wsnd z q s' n
        unfold wsnd
        rw [← e4, ← e1, ← e3, if_neg (fun q => hbd q.2)]
        show nsum (wsnd z q s') n = nsum (wsnd z q s') n + 0
        omega
      · dsimp only
        rw [e5', ms_at]
        show _ = nsum (wspo z q) n + wspo z q n
        unfold wspo
        rw [← e4, ← e1, ← e3, if_neg hbd]
      · dsimp only; rw [e5', ms_y (by decide)]; exact g6
      · dsimp only; rw [e5', ms_y b1]; exact gw b b2 b3
      · dsimp only; rw [e5', ms_f (by omega)]; exact gf x hx
    refine T_if (fun c1 => T_if (fun c2 => ?_) (fun c2 => bad (fun q => c2 q.2))) (fun c1 => bad (fun q => c1 (by rw [hc, if_neg q.1])))
    have hlt : ¬ len < zs := by
      intro q1
      rw [hc, if_pos q1] at c1
      exact absurd c1 (by decide)
    rw [gsn s, hsn, w32_id (by omega) (by omega)]
    unfold ebX9_add_115
    refine T_ck ⟨by omega, by omega⟩ (T_ck ⟨by omega, by omega⟩ (T_vm' (fun m5 e5' => T_some ⟨⟨?_, fun i hi => ?_, fun s' a1 a2 => ⟨?_, ?_⟩, ?_, ?_⟩, fun b b1 b2 b3 => ?_, fun x hx => ?_⟩)))
    · dsimp only; rw [e5', ms_x (by omega), g4]; omega
    · dsimp only; rw [e5', ms_x (by omega)]; exact gst i hi
    · dsimp only; rw [e5', ms_x (by omega)]; exact gus s' a1 a2
    · dsimp only
      rw [e5']
      show _ = nsum (wsnd z q s') n + wsnd z q s' n
      unfold wsnd
      rw [← e4, ← e1, ← e3, ← e2]
      by_cases es : s' = s
      · rw [es, ms_at, if_pos ⟨rfl, hlt, c2⟩]
      · rw [ms_y es, if_neg (fun q => es q.1.symm), gsn s', (hus s' a1 a2).2]
        show nsum (wsnd z q s') n = nsum (wsnd z q s') n + 0
        omega
    · dsimp only
      rw [e5', ms_x (by omega), g3]
      show nsum (wspo z q) n = nsum (wspo z q) n + wspo z q n
      unfold wspo
      rw [← e4, ← e1, ← e3, if_pos ⟨hlt, c2⟩]
      show nsum (wspo z q) n = nsum (wspo z q) n + 0
      omega
    · dsimp only; rw [e5', ms_x (by omega)]; exact g6
    · dsimp only; rw [e5', ms_x (by omega)]; exact gw b b2 b3
    · dsimp only; rw [e5', ms_f (by omega)]; exact gf x hx
  unfold eX9_add ebX9_add_0 ebX9_add_20
  refine T_it (by omega) (T_if (fun c => T_it rfl (main 0 (by rw [if_neg (by omega)]))) (fun c => T_ie (by decide) (main 1 (by rw [if_pos (by omega)]))))
/-- the finder finds the next stone -/
theorem stone_loop {g : Shp} {m : Mem} {q : Pc} {z : Int → Int} {J x w : Int} {b : Bg} {p k : Int} (he : Eok (enQ z J q)) (hq : Wq q) (h18 : q.1 ≤ 18) (hgk : ∀ i, 0 ≤ i → i < 24 → gk g (13 + 3 * i) = 3) (hf : FwM g m q (enQ z J q)) (hw : WT m q (enQ z J q)) (h : At m q (enQ z J q) x b p k) (hb : bok b) (hC : Cw (enQ z J q) x b ≠ 1000000) (hp : p < q.1) :
    T (iter (eBX0_setStone_10 g w) 100000 (jmin k 9, 0, m)) (fun r => r.1 = 1 ∧ FS (enQ z J q) x b (r.2.1, r.2.2.1) ∧ WT r.2.2.2 q (enQ z J q) ∧ ∀ a, a ≠ m 5 2 → r.2.2.2 a = m a) := by
  have hel := h.1.e hq (z := z) (J := J) hp
  have hP := h.1
  have hk := hP.2.2.2.1 hp
  have hk12 := (hq.2.1 p hP.2.1 hp).2
  have hw5 := hf.2.2.1
  have hxx := hP.x hq
  have rg : ∀ len s, Good (enQ z J q) x b len s → (1 ≤ len ∧ len ≤ 9 ∧ len ≤ k) ∧ 0 ≤ s ∧ s ≤ 2 := by
    intro len s hg
    have h1 := he.z hg.1.1.1
    have h2 := hg.1.2.2.1
    have h3 := hg.1.2.2.2
    have hj : 0 ≤ ej (enQ z J q) := he.2.1
    rw [hel.1] at h3
    exact ⟨⟨hg.1.1.2, by omega, by omega⟩, hg.1.1.1⟩
  have inner : ∀ (len : Int) (m0 : Mem), 1 ≤ len → len ≤ k → WT m0 q (enQ z J q) → (∀ a, a ≠ m 5 2 → m0 a = m a) → T (iter (eBX0_setStone_16 g w len) 100000 (0, m0)) (fun r => ((r.1 = 1 ∧ Good (enQ z J q) x b len r.2.1 ∧ ∀ s', Good (enQ z J q) x b len s' → r.2.1 ≤ s') ∨ r.1 = 2 ∧ ∀ s', ¬ Good (enQ z J q) x b len s') ∧ WT r.2.2 q (enQ z J q) ∧ ∀ a, a ≠ m 5 2 → r.2.2 a = m a) := by
    intro len m0 hl1 hlk hw0 hm0
    refine iter1 (fun s m' => (0 ≤ s ∧ s ≤ 3) ∧ (∀ s', s' < s → ¬ Good (enQ z J q) x b len s') ∧ WT m' q (enQ z J q) ∧ ∀ a, a ≠ m 5 2 → m' a = m a) (fun s => (3 - s).toNat) ⟨by decide, fun s' hs hg => by have := (rg _ _ hg).2; omega, hw0, hm0⟩ (by decide) ?_
    rintro s m' ⟨s1, s2, s3, s4⟩
    have hA : At m' q (enQ z J q) x b p k := h.c (s4 5 (by omega)) (s4 11 (by omega)) (s4 12 (by omega))
    have hf' := FwM.c hq hf s4
    unfold eBX0_setStone_16 ebX0_setStone_16 ebX0_setStone_102
    simp only
    refine T_if (fun c => T_out (by decide) ⟨Or.inr ⟨rfl, fun s' hg => ?_⟩, s3, s4⟩) (fun c => T_ck ⟨by omega, by omega⟩ ?_)
    · exact s2 s' (by have := (rg _ _ hg).2; omega) hg
    · have go : ∀ m2 : Mem, ¬ Good (enQ z J q) x b len s → WT m2 q (enQ z J q) → (∀ a, a ≠ m 5 2 → m2 a = m a) → T (vv (w32 (s + 1)) fun y1 => some ((0 : Int), (y1, m2))) (G (fun r => (fun (s : Int) (m' : Mem) => (0 ≤ s ∧ s ≤ 3) ∧ (∀ s', s' < s → ¬ Good (enQ z J q) x b len s') ∧ WT m' q (enQ z J q) ∧ ∀ a, a ≠ m 5 2 → m' a = m a) r.1 r.2) (fun r => (fun s : Int => (3 - s).toNat) r.1) ((fun s : Int => (3 - s).toNat) s) (fun r => ((r.1 = 1 ∧ Good (enQ z J q) x b len r.2.1 ∧ ∀ s', Good (enQ z J q) x b len s' → r.2.1 ≤ s') ∨ r.1 = 2 ∧ ∀ s', ¬ Good (enQ z J q) x b len s') ∧ WT r.2.2 q (enQ z J q) ∧ ∀ a, a ≠ m 5 2 → r.2.2 a = m a)) := by
        intro m2 hng hw2 hm2
        rw [w32_id (by omega) (by omega)]
        refine T_vv (T_go ⟨⟨by simp only; omega, by simp only; omega⟩, fun s' hs' => ?_, hw2, hm2⟩ (by simp only; omega))
        simp only at hs'
        by_cases es : s' = s
        · rw [es]; exact hng
        · exact s2 s' (by omega)
      rw [hA.2.2.2.2.2.2 s s1.1 (by omega)]
      refine T_if (fun c1 => go m' (fun hg => by have := hg.1.2.2.1; omega) s3 s4) (fun c1 => T_ck ⟨by omega, by omega⟩ ?_)
      rw [hA.bgs ⟨s1.1, by omega⟩]
      refine T_if (fun c2 => go m' (fun hg => by have := hg.1.2.1; omega) s3 s4) (fun c2 => ?_)
      refine T_bd2 (tX0_isNext he hq h18 hgk hf' s3 hA hb hC hp ⟨s1.1, by omega⟩ ⟨hl1, hlk⟩ (by omega) (by omega)) ?_
      rintro r2 m2 ⟨u1, u2, u3⟩
      dsimp only at u1 u2 u3
      have e5 : m' 5 = m 5 := s4 5 (by omega)
      rw [e5] at u3
      have m2m : ∀ a, a ≠ m 5 2 → m2 a = m a := fun a ha => (u3 a ha).trans (s4 a ha)
      rcases u1 with ⟨e1, hg⟩ | ⟨e1, hg⟩
      · subst e1
        refine T_ie (by decide) (T_out (by decide) ⟨Or.inl ⟨rfl, hg, fun s' hg' => ?_⟩, u2, m2m⟩)
        by_cases q1 : s' < s
        · exact absurd hg' (s2 s' q1)
        · dsimp only; omega
      · subst e1
        exact T_it rfl (go m2 hg u2 m2m)
  have hjm : jmin k 9 ≤ k ∧ jmin k 9 ≤ 9 ∧ 1 ≤ jmin k 9 ∧ (jmin k 9 = k ∨ jmin k 9 = 9) := by rw [jmin_e]; split <;> omega
  refine iter2 (fun len _ m' => (0 ≤ len ∧ len ≤ jmin k 9) ∧ (∀ len' s', len < len' → ¬ Good (enQ z J q) x b len' s') ∧ WT m' q (enQ z J q) ∧ ∀ a, a ≠ m 5 2 → m' a = m a) (fun len _ => len.toNat) ⟨by omega, fun len' s' hl hg => by have := (rg _ _ hg).1; omega, hw, fun _ _ => rfl⟩ (by omega) ?_
  rintro len j m' ⟨s1, s2, s3, s4⟩
  unfold eBX0_setStone_10 ebX0_setStone_10
  simp only
  refine T_if (fun c => ?_) (fun c => T_bdl (inner len m' (by omega) (by omega) s3 s4) ?_)
  · have hx0 : 0 < x := hxx.2.2.mpr hp
    have hgd := (FS_ex he hx0 hC).1
    exact absurd hgd (s2 _ _ (by have := (rg _ _ hgd).1; omega))
  · rintro cc ⟨s, m2⟩ ⟨u1, u2, u3⟩
    dsimp only at u1 u2 u3 ⊢
    rcases u1 with ⟨e1, hg, hmin⟩ | ⟨e1, hno⟩
    · subst e1
      refine T_it rfl (T_out (by decide) ⟨rfl, ⟨hg, fun len' s' hg' => ?_, hmin⟩, u2, u3⟩)
      by_cases q1 : len < len'
      · exact absurd hg' (s2 len' s' q1)
      · dsimp only; omega
    · subst e1
      refine T_ie (by decide) ?_
      unfold ebX0_setStone_108
      rw [show len + (-1) = len - 1 by omega, w32_id (by omega) (by omega)]
      refine T_vv (T_go ⟨⟨by simp only; omega, by simp only; omega⟩, fun len' s' hl' => ?_, u2, u3⟩ (by simp only; omega))
      simp only at hl'
      by_cases q1 : len' = len
      · rw [q1]; exact hno s'
      · exact s2 len' s' (by omega)
