/-! ===== a floor of the program as a row of the reference ===== -/
def rowC (m : Mem) (f k : Int) : Int :=
  if k < 1 then m f 7 else if k < 10 then m (f + 2) (k - 1) else if k < 13 then m (f + 3) (k - 10) else if k < 16 then m (f + 4) (k - 13)
  else if k < 19 then m (f + 5) (k - 16) else if k < 28 then m (f + 6) (k - 19) else if k < 31 then m (f + 7) (k - 28)
  else if k < 32 then m f 8 else if k < 33 then m f 9 else m (f + 1) (k - 33)
def RowEq (R S : Int → Int) : Prop := ∀ k, 0 ≤ k → k < 433 → R k = S k
theorem RowEq.rf (R : Int → Int) : RowEq R R := fun _ _ _ => rfl
theorem RowEq.tr {A B C : Int → Int} (h : RowEq A B) (h2 : RowEq B C) : RowEq A C := fun k a b => (h k a b).trans (h2 k a b)
theorem RowEq.sy {A B : Int → Int} (h : RowEq A B) : RowEq B A := fun k a b => (h k a b).symm
/-- a floor is the same row where its cells are the same -/
theorem rowC_c {m m' : Mem} {f : Int} (h : ∀ a, f ≤ a → a ≤ f + 7 → m' a = m a) : rowC m' f = rowC m f := by
  funext k
  unfold rowC
  rw [h f (by omega) (by omega), h (f + 1) (by omega) (by omega), h (f + 2) (by omega) (by omega), h (f + 3) (by omega) (by omega), h (f + 4) (by omega) (by omega), h (f + 5) (by omega) (by omega), h (f + 6) (by omega) (by omega), h (f + 7) (by omega) (by omega)]
theorem ms_f {m : Mem} {r j v a : Int} (h : a ≠ r) : ms m r j v a = m a := funext fun _ => ms_x h
theorem mcp_f {m : Mem} {s sp d dp n a : Int} (h : a ≠ d) : mcp m s sp d dp n a = m a := funext fun _ => mcp_x h
theorem tX1_copy {g : Shp} {m : Mem} {d s : Int} (h : s + 8 ≤ d ∨ d + 8 ≤ s) :
    T (eX1_copy g d s m) (fun q => q.1 = 0 ∧ RowEq (rowC q.2 d) (rowC m s) ∧ ∀ a, (a < d ∨ d + 7 < a) → q.2 a = m a) := by
  unfold eX1_copy ebX1_copy_0
  iterate 7 refine T_ck (by decide) (T_vm ?_)
  iterate 3 refine T_vm ?_
  refine T_some ⟨rfl, fun k h0 h1 => ?_, fun a ha => ?_⟩
  · unfold rowC
    by_cases a1 : k < 1
    · simp (disch := omega) only [if_pos a1, ms_at, ms_x, ms_y, mcp_x]
    · rw [if_neg a1, if_neg a1]
      by_cases a2 : k < 10
      · simp (disch := omega) only [if_pos a2, ms_x, mcp_x, mcp_in]; congr 1; omega
      · rw [if_neg a2, if_neg a2]
        by_cases a3 : k < 13
        · simp (disch := omega) only [if_pos a3, ms_x, mcp_x, mcp_in]; congr 1; omega
        · rw [if_neg a3, if_neg a3]
          by_cases a4 : k < 16
          · simp (disch := omega) only [if_pos a4, ms_x, mcp_x, mcp_in]; congr 1; omega
          · rw [if_neg a4, if_neg a4]
            by_cases a5 : k < 19
            · simp (disch := omega) only [if_pos a5, ms_x, mcp_x, mcp_in]; congr 1; omega
            · rw [if_neg a5, if_neg a5]
              by_cases a6 : k < 28
              · simp (disch := omega) only [if_pos a6, ms_x, mcp_x, mcp_in]; congr 1; omega
              · rw [if_neg a6, if_neg a6]
                by_cases a7 : k < 31
                · simp (disch := omega) only [if_pos a7, ms_x, mcp_x, mcp_in]; congr 1; omega
                · rw [if_neg a7, if_neg a7]
                  by_cases a8 : k < 32
                  · simp (disch := omega) only [if_pos a8, ms_at, ms_x, ms_y, mcp_x]
                  · rw [if_neg a8, if_neg a8]
                    by_cases a9 : k < 33
                    · simp (disch := omega) only [if_pos a9, ms_at, ms_x, ms_y, mcp_x]
                    · rw [if_neg a9, if_neg a9]
                      simp (disch := omega) only [ms_x, mcp_x, mcp_in]; congr 1; omega
  · simp (disch := omega) only [ms_f, mcp_f]
/-! ===== what was: the floors in their order ===== -/
def PastOk (m : Mem) : Prop := (0 ≤ m 93 1 ∧ m 93 1 ≤ 6) ∧ (∀ i, 0 ≤ i → i < 6 → ∃ t, 0 ≤ t ∧ t < 6 ∧ m 94 i = 95 + 8 * t) ∧ ∀ i j, 0 ≤ i → i < j → j < 6 → m 94 i ≠ m 94 j
theorem PastOk.ap {m : Mem} (h : PastOk m) {i j : Int} (hi : 0 ≤ i) (hi6 : i < 6) (hj : 0 ≤ j) (hj6 : j < 6) (hij : i ≠ j) : m 94 i + 8 ≤ m 94 j ∨ m 94 j + 8 ≤ m 94 i := by
  obtain ⟨t, _, _, e⟩ := h.2.1 i hi hi6
  obtain ⟨u, _, _, f⟩ := h.2.1 j hj hj6
  by_cases q : i < j
  · have := h.2.2 i j hi q hj6; omega
  · have := h.2.2 j i hj (by omega) hi6; omega
theorem PastOk.rg {m : Mem} (h : PastOk m) {i : Int} (hi : 0 ≤ i) (hi6 : i < 6) : 95 ≤ m 94 i ∧ m 94 i ≤ 135 := by
  obtain ⟨t, _, _, e⟩ := h.2.1 i hi hi6
  omega
theorem tX4_dropOldest {g : Shp} {m : Mem} (h : PastOk m) (h6 : m 93 1 = 6) :
    T (eX4_dropOldest g m) (fun q => PastOk q.2 ∧ q.2 93 1 = 5 ∧ (∀ i, 0 ≤ i → i < 5 → q.2 94 i = m 94 (i + 1)) ∧ ∀ a, (a < 93 ∨ 94 < a) → q.2 a = m a) := by
  unfold eX4_dropOldest ebX4_dropOldest_0
  refine T_ck (by decide) (T_bdl (Q := fun q => (∀ i, 0 ≤ i → i < 5 → q.2.2 94 i = m 94 (i + 1)) ∧ ∀ a, a ≠ 94 → q.2.2 a = m a)
    (iter1 (fun k m' => 1 ≤ k ∧ k ≤ 6 ∧ (∀ i, 0 ≤ i → i < k - 1 → m' 94 i = m 94 (i + 1)) ∧ (∀ i, k - 1 ≤ i → m' 94 i = m 94 i) ∧ ∀ a, a ≠ 94 → m' a = m a) (fun k => (6 - k).toNat)
      ⟨by decide, by decide, fun i _ _ => by omega, fun i _ => rfl, fun a _ => rfl⟩ (by decide) ?_) ?_)
  · rintro k m' ⟨h1, h2, h3, h4, h5⟩
    unfold eBX4_dropOldest_9 ebX4_dropOldest_9
    simp only
    refine T_if (fun hc => T_out (by decide) ⟨fun i a b => h3 i a (by omega), h5⟩) (fun hc => ?_)
    simp (disch := omega) only [w32_id]
    refine T_ck ⟨by omega, by omega⟩ (T_ck ⟨by omega, by omega⟩ (T_vm (T_vv (T_go ⟨by simp only; omega, by simp only; omega, fun i a b => ?_, fun i a => ?_, fun a ha => ?_⟩ (by simp only; omega)))))
    · simp only at a b ⊢
      by_cases q : i = k - 1
      · rw [q, ms_at, h4 k (by omega)]; congr 1; omega
      · rw [ms_y q]; exact h3 i a (by omega)
    · simp only at a ⊢
      rw [ms_y (by omega)]; exact h4 i (by omega)
    · simp only
      rw [ms_f ha]; exact h5 a ha
  · rintro r ⟨k, m'⟩ ⟨h1, h2⟩
    simp only at h1 h2
    unfold ebX4_dropOldest_35
    refine T_ck (by decide) (T_vm (T_vm (T_some ?_)))
    simp only
    have e93 : m' 93 1 = 6 := by rw [h2 93 (by decide), h6]
    have q94 : ∀ i, 0 ≤ i → i < 6 → ms (ms m' 94 5 (m 94 0)) 93 1 (w32 (ms m' 94 5 (m 94 0) 93 1 - 1)) 94 i = m 94 (if i = 5 then 0 else i + 1) := by
      intro i a b
      rw [ms_x (by decide)]
      by_cases q : i = 5
      · rw [q, ms_at, if_pos rfl]
      · rw [ms_y q, if_neg q]; exact h1 i a (by omega)
    refine ⟨⟨⟨?_, ?_⟩, fun i a b => ?_, fun i j a b c => ?_⟩, ?_, fun i a b => ?_, fun a ha => ?_⟩
    · rw [ms_at, ms_x (by decide), e93]; decide
    · rw [ms_at, ms_x (by decide), e93]; decide
    · rw [q94 i a b]
      split
      · exact h.2.1 0 (by decide) (by decide)
      · exact h.2.1 (i + 1) (by omega) (by omega)
    · rw [q94 i a (by omega), q94 j (by omega) c, if_neg (by omega)]
      split
      · exact fun q => h.2.2 0 (i + 1) (by decide) (by omega) (by omega) q.symm
      · exact h.2.2 (i + 1) (j + 1) (by omega) (by omega) (by omega)
    · rw [ms_at, ms_x (by decide), e93]; decide
    · rw [q94 i a (by omega), if_neg (by omega)]
    · rw [ms_f (by omega), ms_f (by omega)]; exact h2 a (by omega)
