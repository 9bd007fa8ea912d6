/-! ===== count, drawn ===== -/
def opn (R : Int → Int) (i : Int) : Int := if R (10 + i) = -4 then 1 else 0
def shc (d : Dt) (c : Int) : Int := if rsum (fun i => b01 (onB d i c)) (dl d).toNat ≤ 1 then 0 else 1
theorem tX10_uncovered {g : Shp} {m : Mem} (h : Core m) : T (eX10_uncovered g m) (fun q => q = (rsum (opn (m 242)) (dl (dt m)).toNat, m)) := by
  obtain ⟨ht, hp, hs, hpl, ⟨hr0, hw0⟩, hq⟩ := id h
  have hl := hp.1
  unfold eX10_uncovered ebX10_uncovered_0
  refine T_bdl (Q := fun q => q.2.2.2 = m ∧ q.2.1 = rsum (opn (m 242)) (dl (dt m)).toNat)
    (iter2 (fun z k m' => m' = m ∧ 0 ≤ k ∧ k ≤ dl (dt m) ∧ z = rsum (opn (m 242)) k.toNat) (fun _ k => (3 - k).toNat)
      ⟨rfl, by decide, by omega, rfl⟩ (by decide) ?_) ?_
  · rintro z k m' ⟨rfl, h1, h2, h3⟩
    unfold eBX10_uncovered_4 ebX10_uncovered_4
    simp only
    rw [hpl.2.1]
    have hz := rsum_01 (f := opn (m' 242)) k.toNat (fun r a b => by unfold opn; split <;> omega)
    refine T_if (fun hc => T_out (by decide) ⟨rfl, ?_⟩) (fun hc => T_bd2 (tX1_isCovered ⟨by omega, by omega⟩) ?_)
    · simp only
      rw [h3, show k = dl (dt m') by omega]
    · intro r m2 q
      cases q
      rw [hr0 _ (by omega) (by omega)]
      by_cases ho : m' 242 (10 + k) = -4
      · rw [if_pos ho]
        refine T_it rfl (T_vv ?_)
        unfold ebX10_uncovered_29
        rw [w32_id (x := z + 1) (by omega) (by omega), w32_id (by omega) (by omega)]
        refine T_vv (T_go ⟨rfl, by simp only; omega, by simp only; omega, ?_⟩ (by simp only; omega))
        simp only
        rw [rsum_s h1, h3]
        unfold opn
        rw [if_pos ho]
      · rw [if_neg ho]
        refine T_ie (by decide) ?_
        unfold ebX10_uncovered_29
        rw [w32_id (by omega) (by omega)]
        refine T_vv (T_go ⟨rfl, by simp only; omega, by simp only; omega, ?_⟩ (by simp only; omega))
        simp only
        rw [rsum_s h1, h3]
        unfold opn
        rw [if_neg ho]
        omega
  · rintro r ⟨z, k, m'⟩ ⟨h1, h2⟩
    simp only at h1 h2
    exact T_some (by simp only; rw [h1, h2])
theorem tX11_covered {g : Shp} {m : Mem} (hp : WPl (dt m)) : T (iter (eBX11_count_111 g) 100000 (0, 0, m)) (fun q => q.2.2.2 = m ∧ q.2.1 = dl (dt m) - rsum (opn (m 242)) (dl (dt m)).toNat) := by
  have hl := hp.1
  have e20 : m 241 20 = dl (dt m) := rfl
  refine iter2 (fun z k m' => m' = m ∧ 0 ≤ k ∧ k ≤ dl (dt m) ∧ z = k - rsum (opn (m 242)) k.toNat) (fun _ k => (3 - k).toNat)
      ⟨rfl, by decide, by omega, rfl⟩ (by decide) ?_
  rintro z k m' ⟨rfl, h1, h2, h3⟩
  unfold eBX11_count_111 ebX11_count_111
  simp only
  rw [e20]
  have hz := rsum_01 (f := opn (m' 242)) k.toNat (fun r a b => by unfold opn; split <;> omega)
  refine T_if (fun hc => T_out (by decide) ⟨rfl, ?_⟩) (fun hc => T_bd2 (tX11_isCovered ⟨by omega, by omega⟩) ?_)
  · simp only
    rw [h3, show k = dl (dt m') by omega]
  · intro r m2 q
    cases q
    by_cases ho : m' 242 (10 + k) = -4
    · rw [if_pos ho]
      refine T_it rfl ?_
      unfold ebX11_count_133
      rw [w32_id (x := z + 0) (by omega) (by omega), w32_id (by omega) (by omega)]
      refine T_vv (T_vv (T_go ⟨rfl, by simp only; omega, by simp only; omega, ?_⟩ (by simp only; omega)))
      simp only
      rw [rsum_s h1, h3]
      unfold opn
      rw [if_pos ho]
      omega
    · rw [if_neg ho]
      refine T_ie (by decide) ?_
      unfold ebX11_count_133
      rw [w32_id (x := z + 1) (by omega) (by omega), w32_id (by omega) (by omega)]
      refine T_vv (T_vv (T_go ⟨rfl, by simp only; omega, by simp only; omega, ?_⟩ (by simp only; omega)))
      simp only
      rw [rsum_s h1, h3]
      unfold opn
      rw [if_neg ho]
      omega
theorem shc_r (d : Dt) (c : Int) : 0 ≤ shc d c ∧ shc d c ≤ 1 := by unfold shc; split <;> decide
theorem tX7_sharedCells {g : Shp} {m : Mem} {P : Int} {d : Dt} (hl : 1 ≤ dl d ∧ dl d ≤ 3) (h : IPl m P d) : T (eX7_sharedCells g P m) (fun q => q = (rsum (shc d) 400, m)) := by
  unfold eX7_sharedCells ebX7_sharedCells_0
  refine T_bdl (Q := fun q => q.2.2.2 = m ∧ q.2.1 = rsum (shc d) 400)
    (iter2 (fun z k m' => m' = m ∧ 0 ≤ k ∧ k ≤ 400 ∧ z = rsum (shc d) k.toNat) (fun _ k => (400 - k).toNat)
      ⟨rfl, by decide, by omega, rfl⟩ (by decide) ?_) ?_
  · rintro z k m' ⟨rfl, h1, h2, h3⟩
    unfold eBX7_sharedCells_4 ebX7_sharedCells_4
    simp only
    have hz := rsum_01 (f := shc d) k.toNat (fun r a b => shc_r d r)
    refine T_if (fun hc => T_out (by decide) ⟨rfl, ?_⟩) (fun hc => T_ck ⟨by omega, by omega⟩ (T_bd2 tJ6_bitCount ?_))
    · simp only
      rw [h3, show k = 400 by omega]
      rfl
    · intro r m2 q
      cases q
      rw [(over_onB hl h ⟨h1, by omega⟩).1]
      unfold ebX7_sharedCells_27
      simp (disch := omega) only [w32_id]
      refine T_if (fun ho => T_vv (T_go ⟨rfl, by simp only; omega, by simp only; omega, ?_⟩ (by simp only; omega))) (fun ho => T_vv (T_vv (T_go ⟨rfl, by simp only; omega, by simp only; omega, ?_⟩ (by simp only; omega))))
      · simp only
        rw [rsum_s h1, h3]
        unfold shc
        rw [if_pos ho]
        omega
      · simp only
        rw [rsum_s h1, h3]
        unfold shc
        rw [if_neg ho]
  · rintro r ⟨z, k, m'⟩ ⟨h1, h2⟩
    simp only at h1 h2
    exact T_some (by simp only; rw [h1, h2])
theorem tX11_sharedCells {g : Shp} {m : Mem} (hp : WPl (dt m)) : T (eX11_sharedCells g m) (fun q => q = (rsum (shc (dt m)) 400, m)) := by
  have hl := hp.1
  have e20 : m 241 20 = dl (dt m) := rfl
  unfold eX11_sharedCells ebX11_sharedCells_0
  refine T_bdl (Q := fun q => q.2.2.2 = m ∧ q.2.1 = rsum (shc (dt m)) 400)
    (iter2 (fun z k m' => m' = m ∧ 0 ≤ k ∧ k ≤ 400 ∧ z = rsum (shc (dt m)) k.toNat) (fun _ k => (400 - k).toNat)
      ⟨rfl, by decide, by omega, rfl⟩ (by decide) ?_) ?_
  · rintro z k m' ⟨rfl, h1, h2, h3⟩
    unfold eBX11_sharedCells_4 ebX11_sharedCells_4
    simp only
    have hz := rsum_01 (f := shc (dt m')) k.toNat (fun r a b => shc_r (dt m') r)
    refine T_if (fun hc => T_out (by decide) ⟨rfl, ?_⟩) (fun hc => T_bdl (Q := fun q => q.2.2.2 = m' ∧ q.2.1 = rsum (fun i => b01 (onB (dt m') i k)) (dl (dt m')).toNat) (iter2 (fun y j m2 => m2 = m' ∧ 0 ≤ j ∧ j ≤ dl (dt m') ∧ y = rsum (fun i => b01 (onB (dt m') i k)) j.toNat) (fun _ j => (3 - j).toNat) ⟨rfl, by decide, by omega, rfl⟩ (by decide) ?_) ?_)
    · simp only
      rw [h3, show k = 400 by omega]
      rfl
    · rintro y j m2 ⟨rfl, k1, k2, k3⟩
      unfold eBX11_sharedCells_16 ebX11_sharedCells_16
      simp only
      rw [e20]
      have hy := rsum_01 (f := fun i => b01 (onB (dt m2) i k)) j.toNat (fun r a b => b01_r _)
      refine T_if (fun hc => T_out (by decide) ⟨rfl, ?_⟩) (fun hc => T_bd2 (tX11_isOn hp ⟨by omega, by omega⟩) ?_)
      · simp only
        rw [k3, show j = dl (dt m2) by omega]
      · intro r m3 q
        cases q
        unfold ebX11_sharedCells_41
        by_cases ho : onB (dt m2) j k = true
        · rw [ho]
          simp (disch := omega) only [w32_id]
          refine T_ie (by decide) (T_vv (T_vv (T_go ⟨rfl, by simp only; omega, by simp only; omega, ?_⟩ (by simp only; omega))))
          simp only
          rw [rsum_s k1, k3, ho]
          rfl
        · have ho2 : onB (dt m2) j k = false := by simpa using ho
          rw [ho2]
          simp (disch := omega) only [w32_id]
          refine T_it rfl (T_vv (T_vv (T_go ⟨rfl, by simp only; omega, by simp only; omega, ?_⟩ (by simp only; omega))))
          simp only
          rw [rsum_s k1, k3, ho2]
          rfl
    · rintro r ⟨y, j, m2⟩ ⟨k1, k2⟩
      simp only at k1 k2
      subst k1
      unfold ebX11_sharedCells_49 ebX11_sharedCells_60
      dsimp only
      rw [k2]
      simp (disch := omega) only [w32_id]
      refine T_if (fun ho => T_vv (T_vv (T_go ⟨rfl, by simp only; omega, by simp only; omega, ?_⟩ (by simp only; omega)))) (fun ho => T_vv (T_vv (T_go ⟨rfl, by simp only; omega, by simp only; omega, ?_⟩ (by simp only; omega))))
      · simp only
        rw [rsum_s h1, h3]
        unfold shc
        rw [if_pos ho]
      · simp only
        rw [rsum_s h1, h3]
        unfold shc
        rw [if_neg ho]
  · rintro r ⟨z, k, m'⟩ ⟨h1, h2⟩
    simp only at h1 h2
    exact T_some (by simp only; rw [h1, h2])
theorem op_count {g : Shp} {m : Mem} {x : Int} (h : Core m) : Two (eX10_count g x m) (eX11_count g x) (Done m) := by
  obtain ⟨ht, hp, hs, hpl, ⟨hr0, hw0⟩, hq⟩ := id h
  have hl := hp.1
  have rf := Done.rf h
  have hz := rsum_01 (f := opn (m 242)) (dl (dt m)).toNat (fun r a b => by unfold opn; split <;> omega)
  unfold Two eX10_count ebX10_count_0
  have go : ∀ (P : Int × Mem → Prop), T (ebX11_count_0 g x m) P → T (eX11_count g x m) P := fun P h => h
  refine T_if (fun h0 => T2 (go _ ?_)) (fun h0 => T_if (fun h1 => ?_) (fun h1 => T_if (fun h2 => ?_) (fun h2 => T_if (fun h3 => ?_) (fun h3 => T_if (fun h4 => T2 (go _ ?_)) (fun h4 => T_if (fun h5 => T2 (go _ ?_)) (fun h5 => T_if (fun h6 => T2 (go _ ?_)) (fun h6 => T_if (fun h7 => T2 (go _ ?_)) (fun h7 => T_if (fun h8 => T2 (go _ ?_)) (fun h8 => T_if (fun h9 => ?_) (fun h9 => T_if (fun h10 => ?_) (fun h10 => T2 (go _ ?_))))))))))))
  · unfold ebX11_count_0
    exact T_it h0 (T_r hpl.2.1 rf)
  · rw [w32_id (by omega) (by omega)]
    refine T_ck ⟨by omega, by omega⟩ (T2 (go _ ?_))
    unfold ebX11_count_0
    rw [w32_id (by omega) (by omega)]
    exact T_ie h0 (T_it h1 (T_ck ⟨by omega, by omega⟩ (T_r (hpl.1 _ (by omega) (by omega)) rf)))
  · rw [w32_id (by omega) (by omega)]
    refine T_ck ⟨by omega, by omega⟩ (T2 (go _ ?_))
    unfold ebX11_count_0
    rw [w32_id (by omega) (by omega)]
    exact T_ie h0 (T_ie h1 (T_it h2 (T_ck ⟨by omega, by omega⟩ (T_r (hpl.1 _ (by omega) (by omega)) rf))))
  · rw [w32_id (by omega) (by omega)]
    refine T_ck ⟨by omega, by omega⟩ (T2 (go _ ?_))
    unfold ebX11_count_0
    rw [w32_id (by omega) (by omega)]
    exact T_ie h0 (T_ie h1 (T_ie h2 (T_it h3 (T_ck ⟨by omega, by omega⟩ (T_r (hpl.1 _ (by omega) (by omega)) rf)))))
  · unfold ebX11_count_0
    exact T_ie h0 (T_ie h1 (T_ie h2 (T_ie h3 (T_it h4 (T_ck (by decide) (T_r (by rw [← hr0 0 (by decide) (by decide), rowC_0]) rf))))))
  · unfold ebX11_count_0
    exact T_ie h0 (T_ie h1 (T_ie h2 (T_ie h3 (T_ie h4 (T_it h5 (T_ck (by decide) (T_r (by rw [← hr0 31 (by decide) (by decide), rowC_31]) rf)))))))
  · unfold ebX11_count_0
    exact T_ie h0 (T_ie h1 (T_ie h2 (T_ie h3 (T_ie h4 (T_ie h5 (T_it h6 (T_ck (by decide) (T_r (by rw [← hr0 32 (by decide) (by decide), rowC_32]) rf))))))))
  · unfold ebX11_count_0
    exact T_ie h0 (T_ie h1 (T_ie h2 (T_ie h3 (T_ie h4 (T_ie h5 (T_ie h6 (T_it h7 (T_r hq.2.1.symm rf))))))))
  · unfold ebX11_count_0
    exact T_ie h0 (T_ie h1 (T_ie h2 (T_ie h3 (T_ie h4 (T_ie h5 (T_ie h6 (T_ie h7 (T_it h8 (T_r ht.2.1 rf)))))))))
  · refine T_bd2 (tX10_uncovered h) ?_
    intro r m' q
    cases q
    rw [hpl.2.1, w32_id (by omega) (by omega)]
    refine T2 (go _ ?_)
    unfold ebX11_count_0
    refine T_ie h0 (T_ie h1 (T_ie h2 (T_ie h3 (T_ie h4 (T_ie h5 (T_ie h6 (T_ie h7 (T_ie h8 (T_it h9 (T_bdl (tX11_covered hp) ?_))))))))))
    rintro r ⟨z, k, m'⟩ ⟨k1, k2⟩
    simp only at k1 k2
    subst k1
    exact T_r k2.symm rf
  · refine T_bd2 (tX7_sharedCells hl hpl) ?_
    intro r m' q
    obtain ⟨e1, e2⟩ := Prod.mk.inj q
    rw [e1, e2]
    refine T2 (go _ ?_)
    unfold ebX11_count_0
    refine T_ie h0 (T_ie h1 (T_ie h2 (T_ie h3 (T_ie h4 (T_ie h5 (T_ie h6 (T_ie h7 (T_ie h8 (T_ie h9 (T_it h10 (T_bd2 (tX11_sharedCells hp) ?_)))))))))))
    intro r m' q
    obtain ⟨e1, e2⟩ := Prod.mk.inj q
    rw [e1, e2]
    exact T_r rfl rf
  · unfold ebX11_count_0
    exact T_ie h0 (T_ie h1 (T_ie h2 (T_ie h3 (T_ie h4 (T_ie h5 (T_ie h6 (T_ie h7 (T_ie h8 (T_ie h9 (T_ie h10 (T_r rfl rf)))))))))))
