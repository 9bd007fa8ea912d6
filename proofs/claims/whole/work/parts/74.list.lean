theorem tX2_lB {g : Shp} {m : Mem} {x bent : Int} {st : Nat × List Q4} {s0 s1 s2 J a cut k cost : Nat} (hx : 11 < x) (hg : gl g 11 = 3) (hz : Sz m s0 s1 s2) (hJ : J ≤ 2) (hk : k ≤ 12) (h6 : a ≤ 6 ∧ cut ≤ 3 ∧ cost ≤ 4) (h : LC m x st) :
    T (iter (eBX2_list_52 g x k bent 11 J cut a cost) 100000 (0, m)) (fun q => LC q.2.2 x (lB s0 s1 s2 J (k + J) a cut cost 7 st) ∧ LFr x m q.2.2) := by
  refine iter1 (fun n m' => (0 ≤ n ∧ n ≤ 7) ∧ LC m' x (lB s0 s1 s2 J (k + J) a cut cost n.toNat st) ∧ LFr x m m') (fun n => (7 - n).toNat) ⟨by decide, h, LFr.rf x m⟩ (by decide) ?_
  rintro b' m' ⟨k1, k2, k3⟩
  obtain ⟨z0, z1, z2, zz⟩ := hz.c (k3.2 11 (by omega) (by omega) (by omega))
  obtain ⟨b, hb⟩ : ∃ n : Nat, b' = n := ⟨b'.toNat, by omega⟩
  subst hb
  have es : ((b : Int) + 1).toNat = b + 1 := by omega
  have en : ((b : Int)).toNat = b := by omega
  rw [en] at k2
  have p0 := mul_b (a := a) (b := (s0 : Int)) (A := 6) (B := 9) (by omega) (by omega)
  have p1 := mul_b (a := b) (b := (s1 : Int)) (A := 7) (B := 9) (by omega) (by omega)
  have p2 := mul_b (a := a) (b := (J : Int)) (A := 6) (B := 2) (by omega) (by omega)
  have p3 := mul_b (a := b) (b := (J : Int)) (A := 7) (B := 2) (by omega) (by omega)
  have p4 := mul_b (a := cut) (b := (J : Int)) (A := 3) (B := 2) (by omega) (by omega)
  have hbase : ((a * (s0 + J) + (b * (s1 + J) + cut * J) : Nat) : Int) = (a : Int) * s0 + (a : Int) * J + ((b : Int) * s1 + (b : Int) * J + (cut : Int) * J) := by
    rw [Int.natCast_add, Int.natCast_add, Int.natCast_mul, Int.natCast_mul, Int.natCast_mul, Int.natCast_add, Int.natCast_add, Int.mul_add, Int.mul_add]
  have hprod : ((a : Int) + b + cut - 1) * J = (a : Int) * J + (b : Int) * J + (cut : Int) * J - J := by
    rw [Int.sub_mul, Int.add_mul, Int.add_mul, Int.one_mul]
  unfold eBX2_list_52 ebX2_list_52
  simp only
  refine T_if (fun hc => T_out (by decide) ⟨?_, k3⟩) (fun hc => T_ck (by rw [hg]; decide) (T_ck (by rw [hg]; decide) ?_))
  · rw [show (7 : Nat) = b by omega]; exact k2
  · rw [z0, z1, w32_id (x := (a : Int) * s0) (by omega) (by omega), w32_id (x := (b : Int) * s1) (by omega) (by omega), w32_id (x := (a : Int) * s0 + (b : Int) * s1) (by omega) (by omega)]
    refine T_vv ?_
    rw [w32_id (x := (a : Int) + b) (by omega) (by omega), w32_id (x := (a : Int) + b + cut) (by omega) (by omega), w32_id (x := (a : Int) + b + cut - 1) (by omega) (by omega), w32_id (x := ((a : Int) + b + cut - 1) * J) (by omega) (by omega), w32_id (x := (k : Int) - ((a : Int) * s0 + (b : Int) * s1)) (by omega) (by omega), w32_id (by omega) (by omega)]
    refine T_vv (T_bdl (tX2_lC (base := a * (s0 + J) + (b * (s1 + J) + cut * J)) (av := k + J) hx hg (hz.c (k3.2 11 (by omega) (by omega) (by omega))) hJ ⟨h6.1, by omega, h6.2.1, h6.2.2⟩ ⟨by omega, by omega⟩ (by omega) k2) ?_)
    rintro c ⟨l, n, m2⟩ ⟨q1, q2⟩
    dsimp only at q1 q2
    unfold ebX2_list_145
    dsimp only
    rw [w32_id (by omega) (by omega)]
    refine T_vv (T_go ⟨⟨by simp only; omega, by simp only; omega⟩, ?_, k3.tr q2⟩ (by simp only; omega))
    simp only [es]
    rw [lB_s]
    by_cases hq : a * (s0 + J) + (b * (s1 + J) + cut * J) + cut ≤ k + J
    · rw [show Nat.ble (a * (s0 + J) + (b * (s1 + J) + cut * J) + cut) (k + J) = true from Nat.ble_eq.mpr hq, cond_true]
      exact q1
    · rw [show Nat.ble (a * (s0 + J) + (b * (s1 + J) + cut * J) + cut) (k + J) = false by rw [← Bool.not_eq_true, Nat.ble_eq]; exact hq, cond_false]
      have := lC_stop (s0 := s0) (s1 := s1) (s2 := s2) (J := J) (av := k + J) (a := a) (b := b) (cut := cut) (cost := cost) (base := a * (s0 + J) + (b * (s1 + J) + cut * J)) (n := 0) (st := lB s0 s1 s2 J (k + J) a cut cost b st) (by omega) 7
      rw [show 0 + 7 = 7 from rfl] at this
      rw [this] at q1
      exact q1
theorem tX2_lA {g : Shp} {m : Mem} {x : Int} {st : Nat × List Q4} {s0 s1 s2 J cut k bent : Nat} (hx : 11 < x) (hg : gl g 11 = 3) (hz : Sz m s0 s1 s2) (hJ : J ≤ 2) (hk : k ≤ 12) (hb : bent ≤ 1) (h6 : cut ≤ 3) (h : LC m x st) :
    T (iter (eBX2_list_22 g x k bent 11 J cut) 100000 (0, m)) (fun q => LC q.2.2 x (lA s0 s1 s2 J (k + J) cut bent 7 st) ∧ LFr x m q.2.2) := by
  refine iter1 (fun n m' => (0 ≤ n ∧ n ≤ 7) ∧ LC m' x (lA s0 s1 s2 J (k + J) cut bent n.toNat st) ∧ LFr x m m') (fun n => (7 - n).toNat) ⟨by decide, h, LFr.rf x m⟩ (by decide) ?_
  rintro a' m' ⟨k1, k2, k3⟩
  obtain ⟨a, hb'⟩ : ∃ n : Nat, a' = n := ⟨a'.toNat, by omega⟩
  subst hb'
  have es : ((a : Int) + 1).toNat = a + 1 := by omega
  have en : ((a : Int)).toNat = a := by omega
  rw [en] at k2
  have main : ∀ cost : Nat, a ≤ 6 → cost ≤ 4 → cost = cond (Nat.beq bent 1) (cond (Nat.beq a 0) (cut + 1) cut) cut → T (ebX2_list_47 g x k bent 11 J cut a cost m') (G (fun q => (fun (n : Int) (m' : Mem) => (0 ≤ n ∧ n ≤ 7) ∧ LC m' x (lA s0 s1 s2 J (k + J) cut bent n.toNat st) ∧ LFr x m m') q.1 q.2) (fun q => (fun n : Int => (7 - n).toNat) q.1) ((fun n : Int => (7 - n).toNat) a) (fun q => LC q.2.2 x (lA s0 s1 s2 J (k + J) cut bent 7 st) ∧ LFr x m q.2.2)) := by
    intro cost ha hcost hce
    unfold ebX2_list_47
    refine T_bdl (tX2_lB hx hg (hz.c (k3.2 11 (by omega) (by omega) (by omega))) hJ hk ⟨ha, h6, hcost⟩ k2) ?_
    rintro c ⟨n, m2⟩ ⟨q1, q2⟩
    dsimp only at q1 q2
    unfold ebX2_list_151
    dsimp only
    rw [w32_id (by omega) (by omega)]
    refine T_vv (T_go ⟨⟨by simp only; omega, by simp only; omega⟩, ?_, k3.tr q2⟩ (by simp only; omega))
    simp only [es]
    rw [lA_s, ← hce]
    exact q1
  unfold eBX2_list_22 ebX2_list_22 ebX2_list_45
  simp only
  refine T_if (fun hc => T_out (by decide) ⟨?_, k3⟩) (fun hc => T_if (fun hd => ?_) (fun hd => T_if (fun he => ?_) (fun he => ?_)))
  · rw [show (7 : Nat) = a by omega]; exact k2
  · exact main cut (by omega) (by omega) (by rw [show Nat.beq bent 1 = false by rw [← Bool.not_eq_true, Nat.beq_eq]; omega, cond_false])
  · rw [w32_id (x := (cut : Int) + 1) (by omega) (by omega)]
    have := main (cut + 1) (by omega) (by omega) (by rw [show Nat.beq bent 1 = true by rw [Nat.beq_eq]; omega, cond_true, show Nat.beq a 0 = true by rw [Nat.beq_eq]; omega, cond_true])
    rw [show ((cut + 1 : Nat) : Int) = (cut : Int) + 1 by omega] at this
    exact this
  · exact main cut (by omega) (by omega) (by rw [show Nat.beq bent 1 = true by rw [Nat.beq_eq]; omega, cond_true, show Nat.beq a 0 = false by rw [← Bool.not_eq_true, Nat.beq_eq]; omega, cond_false])
theorem tX2_list {g : Shp} {m : Mem} {x : Int} {s0 s1 s2 J k bent : Nat} (hx : 11 < x) (hg : gl g 11 = 3) (hz : Sz m s0 s1 s2) (hJ : J ≤ 2) (hk : k ≤ 12) (hb : bent ≤ 1) :
    T (eX2_list g x k bent 11 J m) (fun q => LC q.2 x (lay4 s0 s1 s2 J k bent) ∧ q.2 x 3 = 1 ∧ (∀ b, b ≠ 2 → b ≠ 3 → q.2 x b = m x b) ∧ ∀ a, a ≠ x → a ≠ x + 1 → a ≠ x + 2 → q.2 a = m a) := by
  unfold eX2_list ebX2_list_0
  refine T_vm' (fun m1 e1 => T_vm' (fun m2 e2 => ?_))
  have f : ∀ a, a ≠ x → m2 a = m a := fun a ha => by rw [e2, ms_f ha, e1, ms_f ha]
  refine T_bdl (Q := fun q => LC q.2.2 x (lay4 s0 s1 s2 J k bent) ∧ LFr x m2 q.2.2)
    (iter1 (fun n m' => (0 ≤ n ∧ n ≤ 4) ∧ LC m' x (lCut s0 s1 s2 J (k + J) bent n.toNat) ∧ LFr x m2 m') (fun n => (4 - n).toNat) ⟨by decide, ⟨rfl, by show (0 : Nat) ≤ 16; decide, by rw [e2, ms_y (by decide), e1, ms_at]; rfl, trivial, fun y hy => absurd hy (by simp [lCut])⟩, LFr.rf x m2⟩ (by decide) ?_) ?_
  · rintro c' m' ⟨k1, k2, k3⟩
    obtain ⟨c, hb'⟩ : ∃ n : Nat, c' = n := ⟨c'.toNat, by omega⟩
    subst hb'
    have es : ((c : Int) + 1).toNat = c + 1 := by omega
    have en : ((c : Int)).toNat = c := by omega
    rw [en] at k2
    unfold eBX2_list_13 ebX2_list_13
    simp only
    refine T_if (fun hc => T_out (by decide) ⟨?_, k3⟩) (fun hc => ?_)
    · unfold lay4
      rw [frc_eq, show (4 : Nat) = c by omega]; exact k2
    · refine T_bdl (tX2_lA hx hg (hz.c (by rw [k3.2 11 (by omega) (by omega) (by omega)]; exact f 11 (by omega))) hJ hk hb (by omega) k2) ?_
      rintro cc ⟨n, m3⟩ ⟨q1, q2⟩
      dsimp only at q1 q2
      unfold ebX2_list_157
      dsimp only
      rw [w32_id (by omega) (by omega)]
      refine T_vv (T_go ⟨⟨by simp only; omega, by simp only; omega⟩, ?_, k3.tr q2⟩ (by simp only; omega))
      simp only [es]
      rw [lCut_s]
      exact q1
  · rintro c ⟨n, m3⟩ ⟨q1, q2⟩
    dsimp only at q1 q2
    refine T_some ⟨q1, ?_, fun b b1 b2 => ?_, fun a a1 a2 a3 => ?_⟩
    · dsimp only
      rw [q2.1 3 (by decide), e2, ms_at]
    · dsimp only
      rw [q2.1 b b1, e2, ms_y b2, e1, ms_y b1]
    · dsimp only
      rw [q2.2 a a1 a2 a3, f a a1]
