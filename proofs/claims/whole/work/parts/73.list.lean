theorem lcB_s (s0 s1 s2 a b c cut need av cost cA n : Nat) (st : Nat × List Q4) : lcB s0 s1 s2 a b c cut need av cost cA (n + 1) st = cond (Nat.ble av (need + (cA * (s0 - 1) + n * (s1 - 1) + (cut - cA - n) * (s2 - 1)))) (ladd (lcB s0 s1 s2 a b c cut need av cost cA n st).1 (lcB s0 s1 s2 a b c cut need av cost cA n st).2 (a + cA) (b + n) (c + (cut - cA - n)) cost) (lcB s0 s1 s2 a b c cut need av cost cA n st) := rfl
theorem lcA_s (s0 s1 s2 a b c cut need av cost n : Nat) (st : Nat × List Q4) : lcA s0 s1 s2 a b c cut need av cost (n + 1) st = lcB s0 s1 s2 a b c cut need av cost n (cut - n + 1) (lcA s0 s1 s2 a b c cut need av cost n st) := rfl
theorem lC_s (s0 s1 s2 J av a b cut cost base n : Nat) (st : Nat × List Q4) : lC s0 s1 s2 J av a b cut cost base (n + 1) st = cond (Nat.ble (base + n * (s2 + J) + cut) av) (lcA s0 s1 s2 a b n cut (base + n * (s2 + J)) av cost (cond (Nat.ble 2 s0) cut 0 + 1) (lC s0 s1 s2 J av a b cut cost base n st)) (lC s0 s1 s2 J av a b cut cost base n st) := by
  conv => lhs; unfold lC
  exact frc_eq _ _
theorem lB_s (s0 s1 s2 J av a cut cost n : Nat) (st : Nat × List Q4) : lB s0 s1 s2 J av a cut cost (n + 1) st = cond (Nat.ble (a * (s0 + J) + (n * (s1 + J) + cut * J) + cut) av) (lC s0 s1 s2 J av a n cut cost (a * (s0 + J) + (n * (s1 + J) + cut * J)) 7 (lB s0 s1 s2 J av a cut cost n st)) (lB s0 s1 s2 J av a cut cost n st) := by
  conv => lhs; unfold lB
  exact frc_eq _ _
theorem lA_s (s0 s1 s2 J av cut bent n : Nat) (st : Nat × List Q4) : lA s0 s1 s2 J av cut bent (n + 1) st = lB s0 s1 s2 J av n cut (cond (Nat.beq bent 1) (cond (Nat.beq n 0) (cut + 1) cut) cut) 7 (lA s0 s1 s2 J av cut bent n st) := rfl
theorem lCut_s (s0 s1 s2 J av bent n : Nat) : lCut s0 s1 s2 J av bent (n + 1) = lA s0 s1 s2 J av n bent 7 (lCut s0 s1 s2 J av bent n) := rfl
theorem mul_b {a b A B : Int} (h1 : 0 ≤ a ∧ a ≤ A) (h2 : 0 ≤ b ∧ b ≤ B) : 0 ≤ a * b ∧ a * b ≤ A * B := by
  refine ⟨Int.mul_nonneg h1.1 h2.1, Int.le_trans (Int.mul_le_mul_of_nonneg_right h1.2 h2.1) (Int.mul_le_mul_of_nonneg_left h2.2 (by omega))⟩
/-- the sizes that the lists are for -/
def Sz (m : Mem) (s0 s1 s2 : Nat) : Prop := m 11 0 = s0 ∧ m 11 1 = s1 ∧ m 11 2 = s2 ∧ 1 ≤ s0 ∧ s0 < s1 ∧ s1 < s2 ∧ s2 ≤ 9
theorem Sz.c {m m' : Mem} {s0 s1 s2 : Nat} (h : Sz m s0 s1 s2) (e : m' 11 = m 11) : Sz m' s0 s1 s2 := by unfold Sz; rw [e]; exact h
theorem tX2_lcB {g : Shp} {m : Mem} {x left z : Int} {st : Nat × List Q4} {s0 s1 s2 a b c cut need av cost cA : Nat} (hx : 11 < x) (hg : gl g 11 = 3) (hz : Sz m s0 s1 s2) (h6 : a ≤ 6 ∧ b ≤ 6 ∧ c ≤ 6 ∧ cut ≤ 3 ∧ cA ≤ cut ∧ cost ≤ 4) (hl : left = av - need) (h : LC m x st) :
    T (iter (eBX2_listCut_29 g x a b c cut left cost 11 z cA) 100000 (0, m)) (fun q => LC q.2.2 x (lcB s0 s1 s2 a b c cut need av cost cA (cut - cA + 1) st) ∧ LFr x m q.2.2) := by
  refine iter1 (fun k m' => (0 ≤ k ∧ k ≤ cut - cA + 1) ∧ LC m' x (lcB s0 s1 s2 a b c cut need av cost cA k.toNat st) ∧ LFr x m m') (fun k => (cut - cA + 1 - k).toNat) ⟨by omega, h, LFr.rf x m⟩ (by omega) ?_
  rintro k m' ⟨k1, k2, k3⟩
  obtain ⟨z0, z1, z2, zz⟩ := hz.c (k3.2 11 (by omega) (by omega) (by omega))
  unfold eBX2_listCut_29 ebX2_listCut_29 ebX2_listCut_105
  simp only
  rw [w32_id (x := (cA : Int) + k) (by omega) (by omega)]
  refine T_if (fun hc => T_out (by decide) ⟨?_, k3⟩) (fun hc => ?_)
  · have e : k.toNat = cut - cA + 1 := by omega
    rw [e] at k2
    exact k2
  · obtain ⟨n, hn⟩ : ∃ n : Nat, k = n := ⟨k.toNat, by omega⟩
    subst hn
    have es : ((n : Int) + 1).toNat = n + 1 := by omega
    have en : ((n : Int)).toNat = n := by omega
    rw [en] at k2
    rw [z0, z1, z2, w32_id (x := (cut : Int) - cA) (by omega) (by omega), w32_id (x := (cut : Int) - cA - n) (by omega) (by omega)]
    rw [w32_id (x := (s0 : Int) - 1) (by omega) (by omega), w32_id (x := (s1 : Int) - 1) (by omega) (by omega), w32_id (x := (s2 : Int) - 1) (by omega) (by omega)]
    have p0 := mul_b (a := cA) (b := (s0 : Int) - 1) (A := 3) (B := 8) (by omega) (by omega)
    have p1 := mul_b (a := n) (b := (s1 : Int) - 1) (A := 3) (B := 8) (by omega) (by omega)
    have p2 := mul_b (a := (cut : Int) - cA - n) (b := (s2 : Int) - 1) (A := 3) (B := 8) (by omega) (by omega)
    rw [w32_id (x := (cA : Int) * ((s0 : Int) - 1)) (by omega) (by omega), w32_id (x := (n : Int) * ((s1 : Int) - 1)) (by omega) (by omega)]
    refine T_vv (T_ck (by rw [hg]; decide) (T_ck (by rw [hg]; decide) (T_ck (by rw [hg]; decide) ?_)))
    rw [w32_id (x := ((cut : Int) - cA - n) * ((s2 : Int) - 1)) (by omega) (by omega), w32_id (x := (cA : Int) * ((s0 : Int) - 1) + (n : Int) * ((s1 : Int) - 1)) (by omega) (by omega), w32_id (by omega) (by omega)]
    refine T_vv ?_
    have hcast : ((need + (cA * (s0 - 1) + n * (s1 - 1) + (cut - cA - n) * (s2 - 1)) : Nat) : Int) = need + ((cA : Int) * ((s0 : Int) - 1) + (n : Int) * ((s1 : Int) - 1) + ((cut : Int) - cA - n) * ((s2 : Int) - 1)) := by
      rw [Int.natCast_add, Int.natCast_add, Int.natCast_add, Int.natCast_mul, Int.natCast_mul, Int.natCast_mul, show ((s0 - 1 : Nat) : Int) = (s0 : Int) - 1 by omega, show ((s1 - 1 : Nat) : Int) = (s1 : Int) - 1 by omega, show ((s2 - 1 : Nat) : Int) = (s2 : Int) - 1 by omega, show ((cut - cA - n : Nat) : Int) = (cut : Int) - cA - n by omega]
    have hs := lcB_s s0 s1 s2 a b c cut need av cost cA n st
    rw [w32_id (x := (n : Int) + 1) (by omega) (by omega)]
    refine T_if (fun hd => T_vv (T_go ⟨⟨by simp only; omega, by simp only; omega⟩, ?_, k3⟩ (by simp only; omega))) (fun hd => ?_)
    · simp only [es]
      rw [hs, show Nat.ble av (need + (cA * (s0 - 1) + n * (s1 - 1) + (cut - cA - n) * (s2 - 1))) = false by rw [← Bool.not_eq_true, Nat.ble_eq]; omega, cond_false]
      exact k2
    · rw [w32_id (x := (a : Int) + cA) (by omega) (by omega), w32_id (x := (b : Int) + n) (by omega) (by omega), w32_id (by omega) (by omega)]
      have hadd := tX2_add (g := g) (a := a + cA) (b := b + n) (c := c + (cut - cA - n)) (d := cost) h6.2.2.2.2.2 k2
      rw [show ((a + cA : Nat) : Int) = (a : Int) + cA by omega, show ((b + n : Nat) : Int) = (b : Int) + n by omega, show ((c + (cut - cA - n) : Nat) : Int) = (c : Int) + ((cut : Int) - cA - n) by omega] at hadd
      refine T_bd2 hadd ?_
      rintro r m2 ⟨q1, q2⟩
      dsimp only at q1 q2
      refine T_vv (T_go ⟨⟨by simp only; omega, by simp only; omega⟩, ?_, k3.tr q2⟩ (by simp only; omega))
      simp only [es]
      rw [hs, show Nat.ble av (need + (cA * (s0 - 1) + n * (s1 - 1) + (cut - cA - n) * (s2 - 1))) = true by rw [Nat.ble_eq]; omega, cond_true]
      exact q1
theorem tX2_listCut {g : Shp} {m : Mem} {x left : Int} {st : Nat × List Q4} {s0 s1 s2 a b c cut need av cost : Nat} (hx : 11 < x) (hg : gl g 11 = 3) (hz : Sz m s0 s1 s2) (h6 : a ≤ 6 ∧ b ≤ 6 ∧ c ≤ 6 ∧ cut ≤ 3 ∧ cost ≤ 4) (hl : left = av - need) (h : LC m x st) :
    T (eX2_listCut g x a b c cut left cost 11 m) (fun q => LC q.2 x (lcA s0 s1 s2 a b c cut need av cost (cond (Nat.ble 2 s0) cut 0 + 1) st) ∧ LFr x m q.2) := by
  have main : ∀ mo : Nat, mo ≤ cut → T (ebX2_listCut_14 g x a b c cut left cost 11 mo m) (fun q => LC q.2 x (lcA s0 s1 s2 a b c cut need av cost (mo + 1) st) ∧ LFr x m q.2) := by
    intro mo hmo
    unfold ebX2_listCut_14
    refine T_bdl (Q := fun q => LC q.2.2 x (lcA s0 s1 s2 a b c cut need av cost (mo + 1) st) ∧ LFr x m q.2.2)
      (iter1 (fun k m' => (0 ≤ k ∧ k ≤ mo + 1) ∧ LC m' x (lcA s0 s1 s2 a b c cut need av cost k.toNat st) ∧ LFr x m m') (fun k => (mo + 1 - k).toNat) ⟨by omega, h, LFr.rf x m⟩ (by omega) ?_) (fun c ⟨k, m'⟩ hq => T_some hq)
    rintro k m' ⟨k1, k2, k3⟩
    unfold eBX2_listCut_19 ebX2_listCut_19 ebX2_listCut_111
    simp only
    refine T_if (fun hc => T_out (by decide) ⟨?_, k3⟩) (fun hc => ?_)
    · have e : k.toNat = mo + 1 := by omega
      rw [e] at k2
      exact k2
    · obtain ⟨n, hn⟩ : ∃ n : Nat, k = n := ⟨k.toNat, by omega⟩
      subst hn
      have es : ((n : Int) + 1).toNat = n + 1 := by omega
      have en : ((n : Int)).toNat = n := by omega
      rw [en] at k2
      rw [w32_id (x := (n : Int) + 1) (by omega) (by omega)]
      refine T_bdl (tX2_lcB hx hg (hz.c (k3.2 11 (by omega) (by omega) (by omega))) ⟨h6.1, h6.2.1, h6.2.2.1, h6.2.2.2.1, by omega, h6.2.2.2.2⟩ hl k2) ?_
      rintro cc ⟨j, m2⟩ ⟨q1, q2⟩
      dsimp only at q1 q2
      refine T_vv (T_go ⟨⟨by simp only; omega, by simp only; omega⟩, ?_, k3.tr q2⟩ (by simp only; omega))
      simp only [es]
      rw [lcA_s]
      exact q1
  unfold eX2_listCut ebX2_listCut_0
  have hz0 := hz.1
  have hz1 := hz.2.2.2.1
  refine T_ck (by rw [hg]; decide) ?_
  rw [hz0]
  refine T_if (fun hc => ?_) (fun hc => ?_)
  · rw [show Nat.ble 2 s0 = false by rw [← Bool.not_eq_true, Nat.ble_eq]; omega, cond_false]
    exact main 0 (by omega)
  · rw [show Nat.ble 2 s0 = true by rw [Nat.ble_eq]; omega, cond_true]
    exact main cut (Nat.le_refl _)
theorem lC_stop {s0 s1 s2 J av a b cut cost base n : Nat} {st : Nat × List Q4} (h : av < base + n * (s2 + J) + cut) : ∀ k : Nat, lC s0 s1 s2 J av a b cut cost base (n + k) st = lC s0 s1 s2 J av a b cut cost base n st
  | 0 => rfl
  | k + 1 => by
    have h1 : base + n * (s2 + J) + cut ≤ base + (n + k) * (s2 + J) + cut := by
      rw [Nat.add_mul]
      omega
    rw [← Nat.add_assoc, lC_s, show Nat.ble (base + (n + k) * (s2 + J) + cut) av = false by rw [← Bool.not_eq_true, Nat.ble_eq]; omega, cond_false, lC_stop h k]
theorem tX2_lC {g : Shp} {m : Mem} {x y k0 bent : Int} {st : Nat × List Q4} {s0 s1 s2 J a b cut base av cost : Nat} (hx : 11 < x) (hg : gl g 11 = 3) (hz : Sz m s0 s1 s2) (hJ : J ≤ 2) (h6 : a ≤ 6 ∧ b ≤ 6 ∧ cut ≤ 3 ∧ cost ≤ 4) (hb : base ≤ 1000 ∧ av ≤ 1000) (hl : y = av - base) (h : LC m x st) :
    T (iter (eBX2_list_97 g x k0 bent 11 J cut a cost b) 100000 (y, 0, m)) (fun q => LC q.2.2.2 x (lC s0 s1 s2 J av a b cut cost base 7 st) ∧ LFr x m q.2.2.2) := by
  refine iter2 (fun l k m' => (0 ≤ k ∧ k ≤ 7) ∧ l = av - (base + k * (s2 + J)) ∧ LC m' x (lC s0 s1 s2 J av a b cut cost base k.toNat st) ∧ LFr x m m') (fun _ k => (7 - k).toNat) ⟨by decide, by rw [hl]; omega, h, LFr.rf x m⟩ (by decide) ?_
  rintro l k m' ⟨k1, k0, k2, k3⟩
  obtain ⟨z0, z1, z2, zz⟩ := hz.c (k3.2 11 (by omega) (by omega) (by omega))
  obtain ⟨n, hn⟩ : ∃ n : Nat, k = n := ⟨k.toNat, by omega⟩
  subst hn
  have es : ((n : Int) + 1).toNat = n + 1 := by omega
  have en : ((n : Int)).toNat = n := by omega
  rw [en] at k2
  have pm := mul_b (a := n) (b := (s2 : Int) + J) (A := 7) (B := 11) (by omega) (by omega)
  have hneed : ((base + n * (s2 + J) : Nat) : Int) = base + (n : Int) * (s2 + J) := by rw [Int.natCast_add, Int.natCast_mul, Int.natCast_add]
  unfold eBX2_list_97 ebX2_list_97
  simp only
  refine T_if (fun hc => T_out (by decide) ⟨?_, k3⟩) (fun hc => T_if (fun hd => T_out (by decide) ⟨?_, k3⟩) (fun hd => ?_))
  · rw [show (7 : Nat) = n by omega]; exact k2
  · have := lC_stop (s0 := s0) (s1 := s1) (s2 := s2) (J := J) (av := av) (a := a) (b := b) (cut := cut) (cost := cost) (base := base) (n := n) (st := st) (by omega) (7 - n)
    rw [show n + (7 - n) = 7 by omega] at this
    dsimp only
    rw [this]; exact k2
  · refine T_bd2 (tX2_listCut (need := base + n * (s2 + J)) (av := av) hx hg (hz.c (k3.2 11 (by omega) (by omega) (by omega))) ⟨h6.1, h6.2.1, by omega, h6.2.2.1, h6.2.2.2⟩ (by rw [hneed]; exact k0) k2) ?_
    rintro r m2 ⟨q1, q2⟩
    dsimp only at q1 q2
    have e2 : m2 11 2 = s2 := by rw [q2.2 11 (by omega) (by omega) (by omega)]; exact z2
    rw [e2, w32_id (x := (s2 : Int) + J) (by omega) (by omega), w32_id (x := (n : Int) + 1) (by omega) (by omega), w32_id (by omega) (by omega)]
    refine T_ck (by rw [hg]; decide) (T_vv (T_vv (T_go ⟨⟨by simp only; omega, by simp only; omega⟩, ?_, ?_, k3.tr q2⟩ (by simp only; omega))))
    · simp only
      rw [k0, Int.add_mul]; omega
    · simp only [es]
      rw [lC_s, show Nat.ble (base + n * (s2 + J) + cut) av = true by rw [Nat.ble_eq]; omega, cond_true]
      exact q1
