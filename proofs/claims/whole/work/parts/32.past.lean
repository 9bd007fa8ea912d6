/-! ===== what was, on both sides ===== -/
theorem tX4_keep {g : Shp} {m : Mem} (h : PastOk m) :
    T (eX4_keep g 85 m) (fun q => PastOk q.2 ∧ (∃ s, (s = 0 ∧ m 93 1 < 6 ∨ s = 1 ∧ m 93 1 = 6) ∧ q.2 93 1 = m 93 1 + 1 - s ∧ (∀ i, 0 ≤ i → i < m 93 1 - s → rowC q.2 (q.2 94 i) = rowC m (m 94 (i + s))) ∧ RowEq (rowC q.2 (q.2 94 (m 93 1 - s))) (rowC m 85)) ∧ ∀ a, (a < 93 ∨ 142 < a) → q.2 a = m a) := by
  have key : ∀ (m1 : Mem) (s : Int), PastOk m1 → (s = 0 ∧ m 93 1 < 6 ∨ s = 1 ∧ m 93 1 = 6) → m1 93 1 = m 93 1 - s → (∀ i, 0 ≤ i → i < m 93 1 - s → m1 94 i = m 94 (i + s)) → (∀ a, (a < 93 ∨ 94 < a) → m1 a = m a) →
      T (ebX4_keep_13 g 85 m1) (fun q => PastOk q.2 ∧ (∃ s, (s = 0 ∧ m 93 1 < 6 ∨ s = 1 ∧ m 93 1 = 6) ∧ q.2 93 1 = m 93 1 + 1 - s ∧ (∀ i, 0 ≤ i → i < m 93 1 - s → rowC q.2 (q.2 94 i) = rowC m (m 94 (i + s))) ∧ RowEq (rowC q.2 (q.2 94 (m 93 1 - s))) (rowC m 85)) ∧ ∀ a, (a < 93 ∨ 142 < a) → q.2 a = m a) := by
    intro m1 s h1 hs h2 h3 h4
    have hc := h.1
    have hr := h1.rg (i := m1 93 1) (by omega) (by omega)
    unfold ebX4_keep_13
    refine T_ck ⟨by omega, by omega⟩ (T_bd2 (tX1_copy (by omega)) ?_)
    rintro r m2 ⟨-, h5, h6⟩
    simp only at h5 h6
    have e93 : m2 93 = m1 93 := h6 93 (by omega)
    have e94 : m2 94 = m1 94 := h6 94 (by omega)
    rw [e93, w32_id (by omega) (by omega)]
    refine T_vm (T_some ⟨⟨?_, ?_, ?_⟩, ⟨s, hs, ?_, fun i a b => ?_, ?_⟩, fun a ha => ?_⟩)
    · simp only [ms_at]; omega
    · intro i a b
      simp only [ms_f (show (94 : Int) ≠ 93 by decide), e94]
      exact h1.2.1 i a b
    · intro i j a b c
      simp only [ms_f (show (94 : Int) ≠ 93 by decide), e94]
      exact h1.2.2 i j a b c
    · simp only [ms_at]; omega
    · simp only [ms_f (show (94 : Int) ≠ 93 by decide), e94]
      have hi := h1.rg (i := i) (by omega) (by omega)
      have ap := h1.ap (i := i) (j := m1 93 1) (by omega) (by omega) (by omega) (by omega) (by omega)
      have hj := h.rg (i := i + s) (by omega) (by omega)
      rw [← h3 i a b]
      refine rowC_c (fun x hx hx7 => ?_)
      rw [ms_f (by omega), h6 x (by omega), h4 x (by omega)]
    · simp only [ms_f (show (94 : Int) ≠ 93 by decide), e94]
      rw [← h2, rowC_c (m := m2) (fun x hx hx7 => ms_f (by omega))]
      refine h5.tr ?_
      rw [rowC_c (m := m) (fun x hx hx7 => h4 x (by omega))]
      exact RowEq.rf _
    · simp only
      rw [ms_f (by omega), h6 a (by omega), h4 a (by omega)]
  have hc := h.1
  unfold eX4_keep ebX4_keep_0
  refine T_if (fun h6 => T_bd2 (tX4_dropOldest h h6) ?_) (fun h6 => key m 0 h (Or.inl ⟨rfl, by omega⟩) (by omega) (fun i _ _ => by rw [Int.add_zero]) (fun _ _ => rfl))
  rintro r m1 ⟨h1, h2, h3, h4⟩
  exact key m1 1 h1 (Or.inr ⟨rfl, h6⟩) (by simp only at h2; omega) (fun i a b => h3 i a (by omega)) h4
theorem tX4_giveBack {g : Shp} {m : Mem} (h : PastOk m) (h0 : 0 < m 93 1) :
    T (eX4_giveBack g 85 m) (fun q => PastOk q.2 ∧ q.2 93 1 = m 93 1 - 1 ∧ q.2 94 = m 94 ∧ RowEq (rowC q.2 85) (rowC m (m 94 (m 93 1 - 1))) ∧ ∀ a, (a < 85 ∨ 93 < a) → q.2 a = m a) := by
  have hc := h.1
  have hr := h.rg (i := m 93 1 - 1) (by omega) (by omega)
  unfold eX4_giveBack ebX4_giveBack_0
  refine T_ie (by omega) (T_vm ?_)
  rw [ms_at, w32_id (by omega) (by omega), ms_x (show (94 : Int) ≠ 93 by decide)]
  refine T_ck ⟨by omega, by omega⟩ (T_bd2 (tX1_copy (by omega)) ?_)
  rintro r m2 ⟨-, h5, h6⟩
  simp only at h5 h6
  unfold ebX4_giveBack_30
  have e93 : m2 93 1 = m 93 1 - 1 := by rw [h6 93 (by omega), ms_at]
  have e94 : m2 94 = m 94 := by rw [h6 94 (by omega), ms_f (by decide)]
  refine T_some ⟨⟨by simp only; omega, by simp only [e94]; exact h.2.1, by simp only [e94]; exact h.2.2⟩, e93, e94, ?_, fun a ha => ?_⟩
  · simp only
    refine h5.tr ?_
    rw [rowC_c (m := m) (fun x hx hx7 => ms_f (by omega))]
    exact RowEq.rf _
  · simp only
    rw [h6 a (by omega), ms_f (by omega)]
/-- no way and no order is known -/
theorem tX10_forgetAnswers {g : Shp} {m : Mem} :
    T (eX10_forgetAnswers g m) (fun q => (∀ w, 0 ≤ w → w < 9 → q.2 (205 + 4 * w) 8 = 0) ∧ q.2 143 8 = 0 ∧ (∀ a b, (b ≠ 8 ∨ a % 4 ≠ 1 ∧ a ≠ 143) → q.2 a b = m a b) ∧ ∀ a, a ≠ 143 → (a < 205 ∨ 237 < a) → q.2 a = m a) := by
  unfold eX10_forgetAnswers ebX10_forgetAnswers_0
  refine T_bdl (Q := fun q => (∀ w, 0 ≤ w → w < 9 → q.2.2 (205 + 4 * w) 8 = 0) ∧ (∀ a b, (b ≠ 8 ∨ a % 4 ≠ 1 ∧ a ≠ 143) → q.2.2 a b = m a b) ∧ ∀ a, (a < 205 ∨ 237 < a) → q.2.2 a = m a)
    (iter1 (fun k m' => 0 ≤ k ∧ k ≤ 9 ∧ (∀ w, 0 ≤ w → w < k → m' (205 + 4 * w) 8 = 0) ∧ (∀ a b, (b ≠ 8 ∨ a % 4 ≠ 1 ∧ a ≠ 143) → m' a b = m a b) ∧ ∀ a, (a < 205 ∨ 237 < a) → m' a = m a) (fun k => (9 - k).toNat)
      ⟨by decide, by decide, fun i _ _ => by omega, fun _ _ _ => rfl, fun a _ => rfl⟩ (by decide) ?_) ?_
  · rintro k m' ⟨h1, h2, h3, h4, h5⟩
    unfold eBX10_forgetAnswers_2 ebX10_forgetAnswers_2
    simp only
    refine T_if (fun hc => T_out (by decide) ⟨fun i a b => h3 i a (by omega), h4, h5⟩) (fun hc => ?_)
    simp (disch := omega) only [w32_id]
    refine T_ck ⟨by omega, by omega⟩ (T_vm (T_vv (T_go ⟨by simp only; omega, by simp only; omega, fun i a b => ?_, fun a b hb => ?_, fun a ha => ?_⟩ (by simp only; omega))))
    · simp only at a b ⊢
      by_cases q : i = k
      · rw [q, show 205 + 4 * k = 176 + (29 + 4 * k) by omega, ms_at]
      · rw [ms_x (by omega)]; exact h3 i a (by omega)
    · simp only
      rw [ms_ne (fun q => by omega)]; exact h4 a b hb
    · simp only
      rw [ms_f (by omega)]; exact h5 a ha
  · rintro r ⟨k, m'⟩ ⟨h1, h2, h3⟩
    simp only at h1 h2 h3
    unfold ebX10_forgetAnswers_27
    refine T_vm (T_some ⟨fun w a b => ?_, by simp only [ms_at], fun a b hb => ?_, fun a ha hb => ?_⟩)
    · simp only
      rw [ms_x (by omega)]; exact h1 w a b
    · simp only
      rw [ms_ne (fun q => by omega)]; exact h2 a b hb
    · simp only
      rw [ms_f ha]; exact h3 a hb
theorem tX10_beginChange {g : Shp} {m : Mem} (h : PastOk m) :
    T (eX10_beginChange g m) (fun q => PastOk q.2 ∧ (∃ s, (s = 0 ∧ m 93 1 < 6 ∨ s = 1 ∧ m 93 1 = 6) ∧ q.2 93 1 = m 93 1 + 1 - s ∧ (∀ i, 0 ≤ i → i < m 93 1 - s → rowC q.2 (q.2 94 i) = rowC m (m 94 (i + s))) ∧ RowEq (rowC q.2 (q.2 94 (m 93 1 - s))) (rowC m 85))
      ∧ ((∀ w, 0 ≤ w → w < 9 → q.2 (205 + 4 * w) 8 = 0) ∧ q.2 143 8 = 0) ∧ (∀ a b, (b ≠ 8 ∨ a % 4 ≠ 1 ∧ a ≠ 143) → (a < 93 ∨ 142 < a) → q.2 a b = m a b) ∧ ∀ a, a ≠ 143 → (a < 93 ∨ 142 < a) → (a < 205 ∨ 237 < a) → q.2 a = m a) := by
  unfold eX10_beginChange ebX10_beginChange_0
  refine T_bd2 (tX4_keep h) ?_
  rintro r m1 ⟨h1, ⟨s, hs, h2, h3, h4⟩, h5⟩
  simp only at h1 h2 h3 h4 h5
  refine T_bd2 tX10_forgetAnswers ?_
  rintro r2 m2 ⟨k1, k2, k3, k4⟩
  simp only at k1 k2 k3 k4
  have e93 : m2 93 = m1 93 := k4 93 (by decide) (by decide)
  have e94 : m2 94 = m1 94 := k4 94 (by decide) (by decide)
  have hc := h.1
  have hrow : ∀ i, 0 ≤ i → i < 6 → rowC m2 (m1 94 i) = rowC m1 (m1 94 i) := fun i a b => by
    have hi := h1.rg (i := i) a b
    exact rowC_c (fun x hx hx7 => k4 x (by omega) (by omega))
  refine T_some ⟨⟨?_, ?_, ?_⟩, ⟨s, hs, ?_, fun i a b => ?_, ?_⟩, ⟨k1, k2⟩, fun a b hb ha => ?_, fun a ha hb hc => ?_⟩
  · simp only [e93]; exact h1.1
  · simp only [e94]; exact h1.2.1
  · simp only [e94]; exact h1.2.2
  · simp only [e93]; exact h2
  · simp only [e94]; rw [hrow i a (by omega)]; exact h3 i a b
  · simp only [e94]; rw [hrow _ (by omega) (by omega)]; exact h4
  · simp only
    rw [k3 a b hb, h5 a ha]
  · simp only
    rw [k4 a ha hc, h5 a hb]
/-! ===== the reference's note and undo ===== -/
theorem tX11_note {g : Shp} {m : Mem} (hg1 : gl g 242 = 433) (hg2 : gl g 244 = 2598) (h : 0 ≤ m 241 3 ∧ m 241 3 ≤ 6) :
    T (eX11_note g m) (fun q => (∃ s, (s = 0 ∧ m 241 3 < 6 ∨ s = 1 ∧ m 241 3 = 6) ∧ q.2 241 3 = m 241 3 + 1 - s ∧ (∀ i k, 0 ≤ i → i < m 241 3 - s → 0 ≤ k → k < 433 → q.2 244 (433 * i + k) = m 244 (433 * (i + s) + k)) ∧ (∀ k, 0 ≤ k → k < 433 → q.2 244 (433 * (m 241 3 - s) + k) = m 242 k))
      ∧ (∀ b, b ≠ 3 → q.2 241 b = m 241 b) ∧ ∀ a, a ≠ 241 → a ≠ 244 → q.2 a = m a) := by
  have key : ∀ (m1 : Mem) (s : Int), (s = 0 ∧ m 241 3 < 6 ∨ s = 1 ∧ m 241 3 = 6) → m1 241 3 = m 241 3 - s → (∀ i, 0 ≤ i → i < 433 * (m 241 3 - s) → m1 244 i = m 244 (i + 433 * s)) → (∀ b, b ≠ 3 → m1 241 b = m 241 b) → (∀ a, a ≠ 241 → a ≠ 244 → m1 a = m a) →
      T (ebX11_note_50 g m1) (fun q => (∃ s, (s = 0 ∧ m 241 3 < 6 ∨ s = 1 ∧ m 241 3 = 6) ∧ q.2 241 3 = m 241 3 + 1 - s ∧ (∀ i k, 0 ≤ i → i < m 241 3 - s → 0 ≤ k → k < 433 → q.2 244 (433 * i + k) = m 244 (433 * (i + s) + k)) ∧ (∀ k, 0 ≤ k → k < 433 → q.2 244 (433 * (m 241 3 - s) + k) = m 242 k))
      ∧ (∀ b, b ≠ 3 → q.2 241 b = m 241 b) ∧ ∀ a, a ≠ 241 → a ≠ 244 → q.2 a = m a) := by
    intro m1 s hs h1 h2 h3 h4
    unfold ebX11_note_50
    rw [w32_id (by omega) (by omega)]
    refine T_bd2 (tX11_bring (by decide) (by omega) (by omega) (by omega) (by omega) (by omega) (by omega)) ?_
    intro r m2 hq
    cases hq
    rw [mcp_x (show (241 : Int) ≠ 244 by decide), w32_id (by omega) (by omega)]
    refine T_vm (T_some ⟨⟨s, hs, ?_, fun i k a b c d => ?_, fun k a b => ?_⟩, fun b hb => ?_, fun a ha hb => ?_⟩)
    · simp only [ms_at]; omega
    · simp only
      have e : 433 * (i + 1) ≤ 433 * (m 241 3 - s) := by omega
      rw [ms_x (by decide), mcp_out (by omega), h2 _ (by omega) (by omega)]
      congr 1
      rcases hs with hs | hs <;> rw [hs.1] <;> omega
    · simp only
      rw [ms_x (by decide), mcp_in (by omega) (by omega), h4 242 (by decide) (by decide)]
      congr 1
      omega
    · simp only
      rw [ms_y hb, mcp_x (by decide)]; exact h3 b hb
    · simp only
      rw [ms_f ha, mcp_f hb]; exact h4 a ha hb
  unfold eX11_note ebX11_note_0
  refine T_if (fun h6 => ?_) (fun h6 => key m 0 (Or.inl ⟨rfl, by omega⟩) (by omega) (fun i _ _ => by congr 1; omega) (fun _ _ => rfl) (fun _ _ _ => rfl))
  refine T_bdl (Q := fun q => (∀ i, 0 ≤ i → i < 2165 → q.2.2 244 i = m 244 (i + 433)) ∧ ∀ a, a ≠ 244 → q.2.2 a = m a)
    (iter1 (fun k m' => 0 ≤ k ∧ k ≤ 2165 ∧ (∀ i, 0 ≤ i → i < k → m' 244 i = m 244 (i + 433)) ∧ (∀ i, k ≤ i → m' 244 i = m 244 i) ∧ ∀ a, a ≠ 244 → m' a = m a) (fun k => (2165 - k).toNat)
      ⟨by decide, by decide, fun i _ _ => by omega, fun _ _ => rfl, fun a _ => rfl⟩ (by decide) ?_) ?_
  · rintro k m' ⟨h1, h2, h3, h4, h5⟩
    unfold eBX11_note_11 ebX11_note_11
    simp only
    refine T_if (fun hc => T_out (by decide) ⟨fun i a b => h3 i a (by omega), h5⟩) (fun hc => ?_)
    simp (disch := omega) only [w32_id]
    refine T_ck ⟨by omega, by omega⟩ (T_ck ⟨by omega, by omega⟩ (T_vm (T_vv (T_go ⟨by simp only; omega, by simp only; omega, fun i a b => ?_, fun i a => ?_, fun a ha => ?_⟩ (by simp only; omega)))))
    · simp only at a b ⊢
      by_cases q : i = k
      · rw [q, ms_at]; exact h4 _ (by omega)
      · rw [ms_y q]; exact h3 i a (by omega)
    · simp only at a ⊢
      rw [ms_y (by omega)]; exact h4 i (by omega)
    · simp only
      rw [ms_f ha]; exact h5 a ha
  · rintro r ⟨k, m'⟩ ⟨h1, h2⟩
    simp only at h1 h2
    unfold ebX11_note_40
    dsimp only
    have e3 : m' 241 3 = 6 := by rw [h2 241 (by decide), h6]
    rw [e3]
    refine T_vm (key _ 1 (Or.inr ⟨rfl, h6⟩) ?_ (fun i a b => ?_) (fun b hb => ?_) (fun a ha hb => ?_))
    · rw [ms_at, h6]; decide
    · rw [ms_x (by decide), h1 i a (by omega)]
      congr 1
    · rw [ms_y hb, h2 241 (by decide)]
    · rw [ms_f ha, h2 a hb]
theorem tX11_undo {g : Shp} {m : Mem} (hg1 : gl g 242 = 433) (hg2 : gl g 244 = 2598) (h : 0 < m 241 3 ∧ m 241 3 ≤ 6) :
    T (eX11_undo g m) (fun q => q.1 = m 241 3 - 1 ∧ q.2 241 3 = m 241 3 - 1 ∧ (∀ k, 0 ≤ k → k < 433 → q.2 242 k = m 244 (433 * (m 241 3 - 1) + k)) ∧ (∀ b, b ≠ 3 → q.2 241 b = m 241 b) ∧ ∀ a, a ≠ 241 → a ≠ 242 → q.2 a = m a) := by
  unfold eX11_undo ebX11_undo_0
  refine T_ie (by omega) (T_vm ?_)
  rw [ms_at, w32_id (x := m 241 3 - 1) (by omega) (by omega), w32_id (by omega) (by omega)]
  refine T_bd2 (tX11_bring (by decide) (by omega) (by omega) (by omega) (by omega) (by omega) (by omega)) ?_
  intro r m2 hq
  cases hq
  refine T_some ⟨?_, ?_, fun k a b => ?_, fun b hb => ?_, fun a ha hb => ?_⟩
  · simp only
    rw [mcp_x (by decide), ms_at]
  · simp only
    rw [mcp_x (by decide), ms_at]
  · simp only
    rw [mcp_in (by omega) (by omega), ms_x (by decide)]
    congr 1
    omega
  · simp only
    rw [mcp_x (by decide), ms_y hb]
  · simp only
    rw [mcp_f hb, ms_f ha]
