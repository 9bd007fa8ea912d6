/-! ===== fill ===== -/
def fillR (R : Int → Int) (x n : Int) : Int → Int := fun k => if 1 + 3 * x ≤ k ∧ k < 1 + 3 * x + n then 6 else R k
theorem fillR_s {R : Int → Int} {x n : Int} (hn : 0 ≤ n) : up (fillR R x n) (1 + 3 * x + n) 6 = fillR R x (n + 1) := by
  funext k
  unfold up fillR
  by_cases q : k = 1 + 3 * x + n
  · rw [if_pos q, if_pos (by omega)]
  · rw [if_neg q]
    by_cases w : 1 + 3 * x ≤ k ∧ k < 1 + 3 * x + n
    · rw [if_pos w, if_pos (by omega)]
    · rw [if_neg w, if_neg (by omega)]
theorem tX1_missingIn {g : Shp} {m : Mem} {f x : Int} {R : Int → Int} (hx : 0 ≤ x ∧ x ≤ 2) (hr : RowEq (rowC m f) R) (hb : ∀ k, 1 ≤ k → k < 10 → 0 ≤ R k ∧ R k ≤ 6) :
    T (eX1_missingIn g f x m) (fun q => q = (18 - R (1 + 3 * x) - R (1 + 3 * x + 1) - R (1 + 3 * x + 2), m)) := by
  unfold eX1_missingIn ebX1_missingIn_0
  have hf : ∀ n : Nat, n ≤ 3 → 0 ≤ rsum (fun s => 6 - R (1 + 3 * x + s)) n ∧ rsum (fun s => 6 - R (1 + 3 * x + s)) n ≤ 18 := fun n hn => by
    have a := rsum_0 (f := fun s => 6 - R (1 + 3 * x + s)) n (fun r a b => by have := hb (1 + 3 * x + r) (by omega) (by omega); omega)
    have b := rsum_le (f := fun s => 6 - R (1 + 3 * x + s)) (c := 6) n (fun r a b => by have := hb (1 + 3 * x + r) (by omega) (by omega); omega)
    omega
  refine T_bdl (Q := fun q => q.2.2.2 = m ∧ q.2.1 = rsum (fun s => 6 - R (1 + 3 * x + s)) 3)
    (iter2 (fun z k m' => m' = m ∧ 0 ≤ k ∧ k ≤ 3 ∧ z = rsum (fun s => 6 - R (1 + 3 * x + s)) k.toNat) (fun _ k => (3 - k).toNat) ⟨rfl, by decide, by decide, rfl⟩ (by decide) ?_) ?_
  · rintro z k m' ⟨rfl, h1, h2, h3⟩
    unfold eBX1_missingIn_4 ebX1_missingIn_4
    simp only
    refine T_if (fun hc => T_out (by decide) ⟨rfl, by simp only; rw [h3, show k = 3 by omega]; rfl⟩) (fun hc => ?_)
    have e : m' (f + 2) (x * 3 + k) = R (1 + 3 * x + k) := by
      rw [show 1 + 3 * x + k = 1 + (x * 3 + k) by omega, ← hr _ (by omega) (by omega), rowC_b (by omega)]
    have hz := hf k.toNat (by omega)
    have hb1 := hb (1 + 3 * x + k) (by omega) (by omega)
    simp (disch := omega) only [w32_id, e]
    refine T_ck ⟨by omega, by omega⟩ (T_vv (T_vv (T_go ⟨rfl, by simp only; omega, by simp only; omega, ?_⟩ (by simp only; omega))))
    simp only
    rw [rsum_s h1, h3]
  · rintro r ⟨z, k, m'⟩ ⟨h1, h2⟩
    simp only at h1 h2
    refine T_some ?_
    simp only
    rw [h1, h2]
    have : rsum (fun s => 6 - R (1 + 3 * x + s)) 3 = 0 + (6 - R (1 + 3 * x + 0)) + (6 - R (1 + 3 * x + 1)) + (6 - R (1 + 3 * x + 2)) := rfl
    rw [this, show 1 + 3 * x + 0 = 1 + 3 * x by omega]
    congr 1
    omega
theorem op_fill {g : Shp} {m : Mem} {x : Int} (hg1 : gl g 242 = 433) (hg2 : gl g 244 = 2598) (h : Core m) : Two (eX10_fill g x m) (eX11_fill g x) (Done m) := by
  obtain ⟨ht, hp, hs, hpl, ⟨hr0, hw0⟩, ⟨q1, q2, q3⟩⟩ := id h
  have rf := Done.rf h
  unfold Two eX10_fill ebX10_fill_0
  refine T_bd2 tX10_isColour ?_
  intro r m' q
  cases q
  by_cases hx : 0 ≤ x ∧ x ≤ 2
  case neg =>
    rw [if_neg hx]
    refine T_it rfl (T2 ?_)
    unfold eX11_fill ebX11_fill_0
    refine T_bd2 tX11_isColour ?_
    intro r m' q
    cases q
    rw [if_neg hx]
    exact T_it rfl (T_r rfl rf)
  rw [if_pos hx]
  refine T_ie (by decide) (T_bd2 (tX1_missingIn hx hr0 hw0.2.1) ?_)
  intro r m' q
  cases q
  have b0 := hw0.2.1 (1 + 3 * x) (by omega) (by omega)
  have b1 := hw0.2.1 (1 + 3 * x + 1) (by omega) (by omega)
  have b2 := hw0.2.1 (1 + 3 * x + 2) (by omega) (by omega)
  refine T_if (fun hc => T2 ?_) (fun hc => T_bd2 (tBC q1) ?_)
  · unfold eX11_fill ebX11_fill_0
    refine T_bd2 tX11_isColour ?_
    intro r m' q
    cases q
    rw [if_pos hx]
    simp (disch := omega) only [w32_id]
    refine T_ie (by decide) (T_vv (T_ck ⟨by omega, by omega⟩ ?_))
    simp (disch := omega) only [w32_id]
    exact T_ck ⟨by omega, by omega⟩ (T_ck ⟨by omega, by omega⟩ (T_vv (T_it (by omega) (T_r rfl rf))))
  · intro r m1 hb
    simp only at hb
    have b8 := hb.2.2.2.2
    refine T_bdl (Q := fun q => RowEq (rowC q.2.2 85) (fillR (m 242) x 3) ∧ ∀ a, a ≠ 87 → q.2.2 a = m1 a)
      (iter1 (fun k m' => 0 ≤ k ∧ k ≤ 3 ∧ RowEq (rowC m' 85) (fillR (m 242) x k) ∧ ∀ a, a ≠ 87 → m' a = m1 a) (fun k => (3 - k).toNat)
        ⟨by decide, by decide, ?_, fun _ _ => rfl⟩ (by decide) ?_) ?_
    · rw [rowC_c (m := m) (fun a u v => b8 a (by omega) (by omega) (by omega))]
      exact hr0.tr (fun k _ _ => by unfold fillR; rw [if_neg (by omega)])
    · rintro k m' ⟨h1, h2, h3, h4⟩
      unfold eBX10_fill_31 ebX10_fill_31
      simp only
      refine T_if (fun hc => T_out (by decide) ⟨?_, h4⟩) (fun hc => ?_)
      · simp only
        rw [show k = 3 by omega] at h3; exact h3
      · simp (disch := omega) only [w32_id]
        refine T_ck ⟨by omega, by omega⟩ (T_vm (T_vv (T_go ⟨by simp only; omega, by simp only; omega, ?_, fun a ha => ?_⟩ (by simp only; omega))))
        · simp only
          rw [← fillR_s h1]
          have q := rA_b (y := x * 3 + k) (by omega)
          have e : 1 + 3 * x + k = 1 + (x * 3 + k) := by omega
          exact row_s h3 rfl (by omega) (by rw [e, q.1]; rfl) (by rw [e, q.2]) rfl
        · simp only
          rw [ms_f ha]; exact h4 a ha
    · rintro cv ⟨k, m2⟩ ⟨h1, h2⟩
      simp only at h1 h2
      refine T2 ?_
      have e2 : ∀ a, 93 ≤ a → a ≠ 143 → 142 < a → (a < 205 ∨ 237 < a) → m2 a = m a := fun a u v w z => by rw [h2 a (by omega), b8 a v (by omega) z]
      have e42 : m2 242 = m 242 := e2 242 (by decide) (by decide) (by decide) (by decide)
      have e41 : m2 241 = m 241 := e2 241 (by decide) (by decide) (by decide) (by decide)
      unfold eX11_fill ebX11_fill_0
      refine T_bd2 tX11_isColour ?_
      intro r m' q
      cases q
      rw [if_pos hx]
      simp (disch := omega) only [w32_id]
      simp only [e42]
      refine T_ie (by decide) (T_vv (T_ck ⟨by omega, by omega⟩ ?_))
      simp (disch := omega) only [w32_id]
      have q0 := q1.1
      refine T_ck ⟨by omega, by omega⟩ (T_ck ⟨by omega, by omega⟩ (T_vv (T_ie (by omega) (T_bd2 (tNT hg1 hg2 (by rw [e41]; omega)) ?_))))
      intro r3 m3 hn
      simp only at hn
      refine T_bdl (Q := fun q => (∀ k, 0 ≤ k → k < 433 → q.2.2 242 k = fillR (m 242) x 3 k) ∧ ∀ a, a ≠ 242 → q.2.2 a = m3 a)
        (iter1 (fun k m' => 0 ≤ k ∧ k ≤ 3 ∧ (∀ j, 0 ≤ j → j < 433 → m' 242 j = fillR (m 242) x k j) ∧ ∀ a, a ≠ 242 → m' a = m3 a) (fun k => (3 - k).toNat)
          ⟨by decide, by decide, fun j _ _ => by rw [hn.2.2 242 (by decide) (by decide), e42]; unfold fillR; rw [if_neg (by omega)], fun _ _ => rfl⟩ (by decide) ?_) ?_
      · rintro k m' ⟨h1, h2, h3, h4⟩
        unfold eBX11_fill_57 ebX11_fill_57
        simp only
        refine T_if (fun hc => T_out (by decide) ⟨?_, h4⟩) (fun hc => ?_)
        · simp only
          rw [show k = 3 by omega] at h3; exact h3
        · simp (disch := omega) only [w32_id]
          refine T_ck ⟨by omega, by omega⟩ (T_vm (T_vv (T_go ⟨by simp only; omega, by simp only; omega, fun j a b => ?_, fun a ha => ?_⟩ (by simp only; omega))))
          · simp only
            rw [← fillR_s h1]
            by_cases w : j = 1 + 3 * x + k
            · rw [w, ms_at, up_at]
            · rw [ms_y w, up_ne w]; exact h3 j a b
          · simp only
            rw [ms_f ha]; exact h4 a ha
      · rintro cv2 ⟨k2, m4⟩ ⟨k1, k3⟩
        simp only at k1 k3
        refine T_r rfl ?_
        dsimp only
        have k1' : RowEq (m4 242) (fillR (m 242) x 3) := k1
        refine Done.ch h hb (m2 := m2) (fun a ha => h2 a (by omega)) hn (fun a a1 a2 a3 a4 => k3 a a2) ⟨by rw [k3 241 (by decide)], by rw [k3 241 (by decide)], by rw [k3 241 (by decide)]⟩ (h1.tr k1'.sy) (WRow.c hp.1.2 ?_ k1')
        obtain ⟨w1, w2, w3, w4, w5, w6, w7⟩ := hw0
        have e : ∀ k, (k < 1 ∨ 10 ≤ k) → fillR (m 242) x 3 k = m 242 k := fun k hk => by unfold fillR; rw [if_neg (by omega)]
        refine ⟨by rw [e 0 (by omega)]; exact w1, fun k a b => ?_, fun i a b => by rw [e _ (by omega)]; exact w3 i a b, fun i a b c => ?_, fun i s a b c d => by rw [e _ (by omega)]; exact w5 i s a b c d, fun c a b => ?_, by rw [e 32 (by omega)]; exact w7⟩
        · unfold fillR
          split
          · omega
          · exact w2 k a b
        · rw [e _ (by omega)] at c ⊢
          exact ⟨(w4 i a b c).1, fun s u v => by rw [e _ (by omega)]; exact (w4 i a b c).2 s u v⟩
        · rw [e _ (by omega)]
          rcases w6 c a b with u | u
          · exact Or.inl u
          · exact Or.inr (by rw [e _ (by omega)]; exact u)
