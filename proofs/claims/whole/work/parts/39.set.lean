/-! ===== writing into a floor, as writing into its row ===== -/
def rA (k : Int) : Int := if k < 1 then 0 else if k < 10 then 2 else if k < 13 then 3 else if k < 16 then 4 else if k < 19 then 5 else if k < 28 then 6 else if k < 31 then 7 else if k < 32 then 0 else if k < 33 then 0 else 1
def rB (k : Int) : Int := if k < 1 then 7 else if k < 10 then k - 1 else if k < 13 then k - 10 else if k < 16 then k - 13 else if k < 19 then k - 16 else if k < 28 then k - 19 else if k < 31 then k - 28 else if k < 32 then 8 else if k < 33 then 9 else k - 33
theorem rowC_AB (m : Mem) (f k : Int) : rowC m f k = m (f + rA k) (rB k) := by
  unfold rowC rA rB
  by_cases a1 : k < 1
  · simp [a1]
  · by_cases a2 : k < 10
    · simp [a1, a2]
    · by_cases a3 : k < 13
      · simp [a1, a2, a3]
      · by_cases a4 : k < 16
        · simp [a1, a2, a3, a4]
        · by_cases a5 : k < 19
          · simp [a1, a2, a3, a4, a5]
          · by_cases a6 : k < 28
            · simp [a1, a2, a3, a4, a5, a6]
            · by_cases a7 : k < 31
              · simp [a1, a2, a3, a4, a5, a6, a7]
              · by_cases a8 : k < 32
                · simp [a1, a2, a3, a4, a5, a6, a7, a8]
                · by_cases a9 : k < 33
                  · simp [a1, a2, a3, a4, a5, a6, a7, a8, a9]
                  · simp [a1, a2, a3, a4, a5, a6, a7, a8, a9]
theorem rAB_cases {k : Int} (h : 0 ≤ k) : (k = 0 ∧ rA k = 0 ∧ rB k = 7) ∨ (1 ≤ k ∧ k < 10 ∧ rA k = 2 ∧ rB k = k - 1) ∨ (10 ≤ k ∧ k < 13 ∧ rA k = 3 ∧ rB k = k - 10) ∨ (13 ≤ k ∧ k < 16 ∧ rA k = 4 ∧ rB k = k - 13) ∨ (16 ≤ k ∧ k < 19 ∧ rA k = 5 ∧ rB k = k - 16)
    ∨ (19 ≤ k ∧ k < 28 ∧ rA k = 6 ∧ rB k = k - 19) ∨ (28 ≤ k ∧ k < 31 ∧ rA k = 7 ∧ rB k = k - 28) ∨ (k = 31 ∧ rA k = 0 ∧ rB k = 8) ∨ (k = 32 ∧ rA k = 0 ∧ rB k = 9) ∨ (33 ≤ k ∧ rA k = 1 ∧ rB k = k - 33) := by
  by_cases a1 : k < 1
  · have hA : rA k = 0 := by unfold rA; rw [if_pos a1]
    have hB : rB k = 7 := by unfold rB; rw [if_pos a1]
    exact Or.inl ⟨by omega, hA, hB⟩
  by_cases a2 : k < 10
  · have hA : rA k = 2 := by unfold rA; rw [if_neg a1, if_pos a2]
    have hB : rB k = k - 1 := by unfold rB; rw [if_neg a1, if_pos a2]
    exact Or.inr (Or.inl ⟨by omega, by omega, hA, hB⟩)
  by_cases a3 : k < 13
  · have hA : rA k = 3 := by unfold rA; rw [if_neg a1, if_neg a2, if_pos a3]
    have hB : rB k = k - 10 := by unfold rB; rw [if_neg a1, if_neg a2, if_pos a3]
    exact Or.inr (Or.inr (Or.inl ⟨by omega, by omega, hA, hB⟩))
  by_cases a4 : k < 16
  · have hA : rA k = 4 := by unfold rA; rw [if_neg a1, if_neg a2, if_neg a3, if_pos a4]
    have hB : rB k = k - 13 := by unfold rB; rw [if_neg a1, if_neg a2, if_neg a3, if_pos a4]
    exact Or.inr (Or.inr (Or.inr (Or.inl ⟨by omega, by omega, hA, hB⟩)))
  by_cases a5 : k < 19
  · have hA : rA k = 5 := by unfold rA; rw [if_neg a1, if_neg a2, if_neg a3, if_neg a4, if_pos a5]
    have hB : rB k = k - 16 := by unfold rB; rw [if_neg a1, if_neg a2, if_neg a3, if_neg a4, if_pos a5]
    exact Or.inr (Or.inr (Or.inr (Or.inr (Or.inl ⟨by omega, by omega, hA, hB⟩))))
  by_cases a6 : k < 28
  · have hA : rA k = 6 := by unfold rA; rw [if_neg a1, if_neg a2, if_neg a3, if_neg a4, if_neg a5, if_pos a6]
    have hB : rB k = k - 19 := by unfold rB; rw [if_neg a1, if_neg a2, if_neg a3, if_neg a4, if_neg a5, if_pos a6]
    exact Or.inr (Or.inr (Or.inr (Or.inr (Or.inr (Or.inl ⟨by omega, by omega, hA, hB⟩)))))
  by_cases a7 : k < 31
  · have hA : rA k = 7 := by unfold rA; rw [if_neg a1, if_neg a2, if_neg a3, if_neg a4, if_neg a5, if_neg a6, if_pos a7]
    have hB : rB k = k - 28 := by unfold rB; rw [if_neg a1, if_neg a2, if_neg a3, if_neg a4, if_neg a5, if_neg a6, if_pos a7]
    exact Or.inr (Or.inr (Or.inr (Or.inr (Or.inr (Or.inr (Or.inl ⟨by omega, by omega, hA, hB⟩))))))
  by_cases a8 : k < 32
  · have hA : rA k = 0 := by unfold rA; rw [if_neg a1, if_neg a2, if_neg a3, if_neg a4, if_neg a5, if_neg a6, if_neg a7, if_pos a8]
    have hB : rB k = 8 := by unfold rB; rw [if_neg a1, if_neg a2, if_neg a3, if_neg a4, if_neg a5, if_neg a6, if_neg a7, if_pos a8]
    exact Or.inr (Or.inr (Or.inr (Or.inr (Or.inr (Or.inr (Or.inr (Or.inl ⟨by omega, hA, hB⟩)))))))
  by_cases a9 : k < 33
  · have hA : rA k = 0 := by unfold rA; rw [if_neg a1, if_neg a2, if_neg a3, if_neg a4, if_neg a5, if_neg a6, if_neg a7, if_neg a8, if_pos a9]
    have hB : rB k = 9 := by unfold rB; rw [if_neg a1, if_neg a2, if_neg a3, if_neg a4, if_neg a5, if_neg a6, if_neg a7, if_neg a8, if_pos a9]
    exact Or.inr (Or.inr (Or.inr (Or.inr (Or.inr (Or.inr (Or.inr (Or.inr (Or.inl ⟨by omega, hA, hB⟩))))))))
  have hA : rA k = 1 := by unfold rA; rw [if_neg a1, if_neg a2, if_neg a3, if_neg a4, if_neg a5, if_neg a6, if_neg a7, if_neg a8, if_neg a9]
  have hB : rB k = k - 33 := by unfold rB; rw [if_neg a1, if_neg a2, if_neg a3, if_neg a4, if_neg a5, if_neg a6, if_neg a7, if_neg a8, if_neg a9]
  exact Or.inr (Or.inr (Or.inr (Or.inr (Or.inr (Or.inr (Or.inr (Or.inr (Or.inr ⟨by omega, hA, hB⟩))))))))
def rK (A B : Int) : Int := if A = 0 then (if B = 7 then 0 else B + 23) else if A = 1 then B + 33 else if A = 2 then B + 1 else if A = 3 then B + 10 else if A = 4 then B + 13 else if A = 5 then B + 16 else if A = 6 then B + 19 else B + 28
theorem rAB_key {k : Int} (h : 0 ≤ k) : rK (rA k) (rB k) = k := by
  rcases rAB_cases h with ⟨e, a, b⟩ | ⟨e, e', a, b⟩ | ⟨e, e', a, b⟩ | ⟨e, e', a, b⟩ | ⟨e, e', a, b⟩ | ⟨e, e', a, b⟩ | ⟨e, e', a, b⟩ | ⟨e, a, b⟩ | ⟨e, a, b⟩ | ⟨e, a, b⟩ <;> rw [a, b] <;> simp [rK] <;> omega
def up (R : Int → Int) (j v : Int) : Int → Int := fun k => if k = j then v else R k
theorem rowC_set {m : Mem} {f a b j v : Int} (hj : 0 ≤ j) (ha : a = f + rA j) (hb : b = rB j) : RowEq (rowC (ms m a b v) f) (up (rowC m f) j v) := by
  intro k h0 _
  subst ha hb
  unfold up
  rw [rowC_AB, rowC_AB]
  by_cases q : k = j
  · rw [q, if_pos rfl, ms_at]
  · rw [if_neg q, ms_ne]
    intro hh
    have h1 := rAB_key h0
    have h2 := rAB_key hj
    rw [show rA k = rA j by omega, hh.2, h2] at h1
    exact q h1.symm
theorem RowEq.up {R S : Int → Int} (h : RowEq R S) (j v : Int) : RowEq (up R j v) (up S j v) := fun k a b => by
  show (if k = j then v else R k) = (if k = j then v else S k)
  split
  · rfl
  · exact h k a b
/-- one more write -/
theorem row_s {m m' : Mem} {f a b j v v' : Int} {R : Int → Int} (h : RowEq (rowC m f) R) (hm : m' = ms m a b v) (hj : 0 ≤ j) (ha : a = f + rA j) (hb : b = rB j) (hv : v = v') : RowEq (rowC m' f) (up R j v') := by
  rw [hm, ← hv]
  exact (rowC_set hj ha hb).tr (h.up j v)
theorem rA_b {y : Int} (h : 0 ≤ y ∧ y < 9) : rA (1 + y) = 2 ∧ rB (1 + y) = y := by
  rcases rAB_cases (k := 1 + y) (by omega) with ⟨e, a, b⟩ | ⟨e, e', a, b⟩ | ⟨e, e', a, b⟩ | ⟨e, e', a, b⟩ | ⟨e, e', a, b⟩ | ⟨e, e', a, b⟩ | ⟨e, e', a, b⟩ | ⟨e, a, b⟩ | ⟨e, a, b⟩ | ⟨e, a, b⟩ <;> first | (exfalso; omega) | exact ⟨a, by omega⟩
theorem rA_c {y : Int} (h : 0 ≤ y ∧ y < 3) : rA (10 + y) = 3 ∧ rB (10 + y) = y := by
  rcases rAB_cases (k := 10 + y) (by omega) with ⟨e, a, b⟩ | ⟨e, e', a, b⟩ | ⟨e, e', a, b⟩ | ⟨e, e', a, b⟩ | ⟨e, e', a, b⟩ | ⟨e, e', a, b⟩ | ⟨e, e', a, b⟩ | ⟨e, a, b⟩ | ⟨e, a, b⟩ | ⟨e, a, b⟩ <;> first | (exfalso; omega) | exact ⟨a, by omega⟩
theorem rA_s {y : Int} (h : 0 ≤ y ∧ y < 3) : rA (13 + y) = 4 ∧ rB (13 + y) = y := by
  rcases rAB_cases (k := 13 + y) (by omega) with ⟨e, a, b⟩ | ⟨e, e', a, b⟩ | ⟨e, e', a, b⟩ | ⟨e, e', a, b⟩ | ⟨e, e', a, b⟩ | ⟨e, e', a, b⟩ | ⟨e, e', a, b⟩ | ⟨e, a, b⟩ | ⟨e, a, b⟩ | ⟨e, a, b⟩ <;> first | (exfalso; omega) | exact ⟨a, by omega⟩
theorem rA_k {y : Int} (h : 0 ≤ y ∧ y < 3) : rA (16 + y) = 5 ∧ rB (16 + y) = y := by
  rcases rAB_cases (k := 16 + y) (by omega) with ⟨e, a, b⟩ | ⟨e, e', a, b⟩ | ⟨e, e', a, b⟩ | ⟨e, e', a, b⟩ | ⟨e, e', a, b⟩ | ⟨e, e', a, b⟩ | ⟨e, e', a, b⟩ | ⟨e, a, b⟩ | ⟨e, a, b⟩ | ⟨e, a, b⟩ <;> first | (exfalso; omega) | exact ⟨a, by omega⟩
theorem rA_u {y : Int} (h : 0 ≤ y ∧ y < 9) : rA (19 + y) = 6 ∧ rB (19 + y) = y := by
  rcases rAB_cases (k := 19 + y) (by omega) with ⟨e, a, b⟩ | ⟨e, e', a, b⟩ | ⟨e, e', a, b⟩ | ⟨e, e', a, b⟩ | ⟨e, e', a, b⟩ | ⟨e, e', a, b⟩ | ⟨e, e', a, b⟩ | ⟨e, a, b⟩ | ⟨e, a, b⟩ | ⟨e, a, b⟩ <;> first | (exfalso; omega) | exact ⟨a, by omega⟩
theorem rA_p {y : Int} (h : 0 ≤ y ∧ y < 3) : rA (28 + y) = 7 ∧ rB (28 + y) = y := by
  rcases rAB_cases (k := 28 + y) (by omega) with ⟨e, a, b⟩ | ⟨e, e', a, b⟩ | ⟨e, e', a, b⟩ | ⟨e, e', a, b⟩ | ⟨e, e', a, b⟩ | ⟨e, e', a, b⟩ | ⟨e, e', a, b⟩ | ⟨e, a, b⟩ | ⟨e, a, b⟩ | ⟨e, a, b⟩ <;> first | (exfalso; omega) | exact ⟨a, by omega⟩
theorem rA_o {y : Int} (h : 0 ≤ y) : rA (33 + y) = 1 ∧ rB (33 + y) = y := by
  rcases rAB_cases (k := 33 + y) (by omega) with ⟨e, a, b⟩ | ⟨e, e', a, b⟩ | ⟨e, e', a, b⟩ | ⟨e, e', a, b⟩ | ⟨e, e', a, b⟩ | ⟨e, e', a, b⟩ | ⟨e, e', a, b⟩ | ⟨e, a, b⟩ | ⟨e, a, b⟩ | ⟨e, a, b⟩ <;> first | (exfalso; omega) | exact ⟨a, by omega⟩
theorem up_at (R : Int → Int) (j v : Int) : up R j v j = v := by unfold up; rw [if_pos rfl]
theorem up_ne {R : Int → Int} {j v k : Int} (h : k ≠ j) : up R j v k = R k := by unfold up; rw [if_neg h]
/-! ===== handOver: the cells of a path that are one's become another's ===== -/
def onN (d : Dt) (i c : Int) (n : Nat) : Bool := (List.range n).any fun k => decide (dc d i k = c)
theorem onN_s {d : Dt} {i c k : Int} (h : 0 ≤ k) : onN d i c (k + 1).toNat = (onN d i c k.toNat || decide (dc d i k = c)) := by
  obtain ⟨n, rfl⟩ := Int.eq_ofNat_of_zero_le h
  rw [show ((n : Int) + 1).toNat = n + 1 by omega, show ((n : Int)).toNat = n by omega]
  unfold onN
  rw [List.range_succ, List.any_append]
  simp
def hand (d : Dt) (i a b : Int) (n : Nat) (R : Int → Int) : Int → Int := fun k => if R k = a ∧ 33 ≤ k ∧ onN d i (k - 33) n = true then b else R k
theorem tX1_handOver {g : Shp} {m : Mem} {f P i a b : Int} {d : Dt} {R : Int → Int} (hab : a ≠ b) (hl : dl d ≤ 3) (hi : 0 ≤ i ∧ i < dl d) (hw : WLine d i) (hp : IPl m P d) (hfp : f + 8 ≤ P ∨ P + 14 ≤ f) (hr : RowEq (rowC m f) R) :
    T (eX1_handOver g f (P + 5 + 3 * i) a b m) (fun q => RowEq (rowC q.2 f) (hand d i a b (dn d i).toNat R) ∧ ∀ x, x ≠ f + 1 → q.2 x = m x) := by
  have hn := hw.mx
  obtain ⟨p1, p2, p3, _⟩ := hp.2.2.1 i hi.1 hi.2
  unfold eX1_handOver ebX1_handOver_0
  refine T_bdl (Q := fun q => RowEq (rowC q.2.2 f) (hand d i a b (dn d i).toNat R) ∧ ∀ x, x ≠ f + 1 → q.2.2 x = m x)
    (iter1 (fun k m' => 0 ≤ k ∧ k ≤ dn d i ∧ RowEq (rowC m' f) (hand d i a b k.toNat R) ∧ ∀ x, x ≠ f + 1 → m' x = m x) (fun k => (60 - k).toNat)
      ⟨by decide, by omega, hr.tr (fun k _ _ => by unfold hand; rw [if_neg]; rintro ⟨_, _, h⟩; exact absurd (show false = true from h) (by decide)), fun _ _ => rfl⟩ (by decide) ?_) ?_
  · rintro k m' ⟨h1, h2, h3, h4⟩
    unfold eBX1_handOver_3 ebX1_handOver_3
    simp only
    have e2 : m' (P + 5 + 3 * i) 2 = dn d i := by rw [h4 (P + 5 + 3 * i) (by omega), p1]
    simp only [e2]
    refine T_if (fun hc => T_out (by decide) ⟨?_, h4⟩) (fun hc => ?_)
    · simp only
      rw [show dn d i = k by omega]; exact h3
    · have e3 : m' (P + 5 + 3 * i + 1) k = dc d i k := by rw [h4 (P + 5 + 3 * i + 1) (by omega), p3 k h1 (by omega)]
      simp only [e3]
      have hcr := hw.2.2.2.1 k h1 (by omega)
      have hrow : m' (f + 1) (dc d i k) = hand d i a b k.toNat R (33 + dc d i k) := by rw [← h3 _ (by omega) (by omega), rowC_o hcr.1]
      have hno : onN d i (dc d i k) k.toNat = false := by
        rw [← Bool.not_eq_true]
        intro hh
        unfold onN at hh
        rw [List.any_eq_true] at hh
        obtain ⟨j, hj1, hj2⟩ := hh
        rw [List.mem_range] at hj1
        exact hw.2.2.2.2 j k (by omega) (by omega) (by omega) (of_decide_eq_true hj2)
      have hrow2 : m' (f + 1) (dc d i k) = R (33 + dc d i k) := by
        rw [hrow]
        unfold hand
        rw [if_neg]
        rintro ⟨_, _, hh⟩
        rw [show 33 + dc d i k - 33 = dc d i k by omega, hno] at hh
        exact absurd hh (by decide)
      unfold ebX1_handOver_41
      simp (disch := omega) only [w32_id]
      refine T_ck ⟨by omega, by omega⟩ (T_ck ⟨by omega, by omega⟩ (T_if (fun he => T_ck ⟨by omega, by omega⟩ (T_ck ⟨by omega, by omega⟩ (T_vm (T_vv (T_go ⟨by simp only; omega, by simp only; omega, ?_, fun x hx => ?_⟩ (by simp only; omega)))))) (fun he => T_vv (T_go ⟨by simp only; omega, by simp only; omega, ?_, h4⟩ (by simp only; omega)))))
      · simp only
        refine (row_s (j := 33 + dc d i k) (v' := b) h3 rfl (by omega) ?_ ?_ rfl).tr (fun x hx0 hx1 => ?_)
        · rw [(rA_o hcr.1).1]
        · rw [(rA_o hcr.1).2]
        · by_cases q : x = 33 + dc d i k
          · rw [q, up_at]
            unfold hand
            rw [if_pos ⟨by rw [← hrow2]; exact he, by omega, by rw [onN_s h1, show 33 + dc d i k - 33 = dc d i k by omega]; simp⟩]
          · rw [up_ne q]
            unfold hand
            rw [onN_s h1]
            have : decide (dc d i k = x - 33) = false := decide_eq_false (by omega)
            rw [this, Bool.or_false]
      · simp only
        rw [ms_f hx]; exact h4 x hx
      · simp only
        refine h3.tr (fun x hx0 hx1 => ?_)
        unfold hand
        rw [onN_s h1]
        by_cases q : x = 33 + dc d i k
        · rw [q, if_neg, if_neg]
          · rintro ⟨hh, _⟩; exact he (by rw [hrow2]; exact hh)
          · rintro ⟨hh, _⟩; exact he (by rw [hrow2]; exact hh)
        · have : decide (dc d i k = x - 33) = false := decide_eq_false (by omega)
          rw [this, Bool.or_false]
  · rintro r ⟨k, m'⟩ ⟨h1, h2⟩
    exact T_some ⟨h1, h2⟩
theorem tJ7_fill {g : Shp} {m : Mem} {r lo hi v : Int} (h0 : 0 ≤ lo) (h1 : lo ≤ hi) (h2 : hi ≤ gl g r) (h3 : gl g r ≤ 90000) :
    T (eJ7_fill_fda19 g r lo hi v m) (fun q => (∀ k, lo ≤ k → k < hi → q.2 r k = v) ∧ (∀ k, (k < lo ∨ hi ≤ k) → q.2 r k = m r k) ∧ ∀ a, a ≠ r → q.2 a = m a) := by
  unfold eJ7_fill_fda19 ebJ7_fill_fda19_0
  have hR : T (eJ7_rangeCheck_23922 g (gl g r) lo hi m) (fun q => q = (0, m)) := by
    unfold eJ7_rangeCheck_23922 ebJ7_rangeCheck_23922_0
    exact T_it h1 (T_it h0 (T_it h2 (T_some rfl)))
  refine T_bd2 hR ?_
  intro r0 m0 q
  cases q
  refine T_bdl (Q := fun q => (∀ k, lo ≤ k → k < hi → q.2.2 r k = v) ∧ (∀ k, (k < lo ∨ hi ≤ k) → q.2.2 r k = m r k) ∧ ∀ a, a ≠ r → q.2.2 a = m a)
    (iter1 (fun k m' => lo ≤ k ∧ k ≤ hi ∧ (∀ j, lo ≤ j → j < k → m' r j = v) ∧ (∀ j, (j < lo ∨ k ≤ j) → m' r j = m r j) ∧ ∀ a, a ≠ r → m' a = m a) (fun k => (hi - k).toNat)
      ⟨by omega, by omega, fun j a b => by omega, fun _ _ => rfl, fun _ _ => rfl⟩ (by omega) ?_) ?_
  · rintro k m' ⟨k1, k2, k3, k4, k5⟩
    unfold eBJ7_fill_fda19_10 ebJ7_fill_fda19_10
    simp only
    refine T_if (fun hc => T_out (by decide) ⟨fun j a b => k3 j a (by omega), fun j a => k4 j (by omega), k5⟩) (fun hc => ?_)
    rw [w32_id (by omega) (by omega)]
    refine T_ck ⟨by omega, by omega⟩ (T_vm (T_vv (T_go ⟨by simp only; omega, by simp only; omega, fun j a b => ?_, fun j a => ?_, fun a ha => ?_⟩ (by simp only; omega))))
    · simp only at b ⊢
      by_cases q : j = k
      · rw [q, ms_at]
      · rw [ms_y q]; exact k3 j a (by omega)
    · simp only at a ⊢
      rw [ms_y (by omega)]; exact k4 j (by omega)
    · simp only
      rw [ms_f ha]; exact k5 a ha
  · rintro c ⟨k, m'⟩ h
    exact T_some h
