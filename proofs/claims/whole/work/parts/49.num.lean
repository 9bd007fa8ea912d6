/-- the reader's number: -1 if there is none or it is too small or too large -/
def nr (t : Int → Int) (n a lo hi : Int) : Int := if 1 ≤ nf t n a ∧ lo ≤ nv t n a ∧ nv t n a ≤ hi then nv t n a else -1
def np0 (t : Int → Int) (a k : Int) : Int := if k = 0 then 0 else if k = 1 then t a - 48 else 10 * (t a - 48) + (t (a + 1) - 48)
theorem tX8_readNumber {g : Shp} {m : Mem} {lo hi : Int} (hn : m 2 3 ≤ 200) (ha : 0 ≤ m 2 2) :
    T (eX8_readNumber g lo hi m) (fun q => q.1 = nr (m 3) (m 2 3) (m 2 2) lo hi ∧ q.2 2 2 = m 2 2 + nf (m 3) (m 2 3) (m 2 2) ∧ (∀ b, b ≠ 2 → q.2 2 b = m 2 b) ∧ ∀ a, a ≠ 2 → q.2 a = m a) := by
  unfold eX8_readNumber ebX8_readNumber_0
  refine T_bdl (Q := fun q => q.2.2.1 = nf (m 3) (m 2 3) (m 2 2) ∧ (1 ≤ nf (m 3) (m 2 3) (m 2 2) → q.2.1 = nv (m 3) (m 2 3) (m 2 2)) ∧ q.2.2.2 2 2 = m 2 2 + nf (m 3) (m 2 3) (m 2 2) ∧ (∀ b, b ≠ 2 → q.2.2.2 2 b = m 2 b) ∧ ∀ a, a ≠ 2 → q.2.2.2 a = m a)
    (iter2 (fun v k m' => 0 ≤ k ∧ k ≤ 2 ∧ v = np0 (m 3) (m 2 2) k ∧ m' 2 2 = m 2 2 + k ∧ (∀ j, 0 ≤ j → j < k → fgB (m 3) (m 2 3) (m 2 2 + j) = true) ∧ (∀ b, b ≠ 2 → m' 2 b = m 2 b) ∧ ∀ a, a ≠ 2 → m' a = m a) (fun _ k => (2 - k).toNat)
      ⟨by decide, by decide, rfl, by omega, fun j a b => by omega, fun _ _ => rfl, fun _ _ => rfl⟩ (by decide) ?_) ?_
  · rintro v k m' ⟨h1, h2, h3, h4, h5, h6, h7⟩
    have e5 : m' 2 3 = m 2 3 := h6 3 (by decide)
    have e3 : m' 3 = m 3 := h7 3 (by decide)
    have out : k = 2 ∨ fgB (m 3) (m 2 3) (m 2 2 + k) = false → k = nf (m 3) (m 2 3) (m 2 2) ∧ (1 ≤ nf (m 3) (m 2 3) (m 2 2) → v = nv (m 3) (m 2 3) (m 2 2)) ∧ m' 2 2 = m 2 2 + nf (m 3) (m 2 3) (m 2 2) := by
      intro hk
      unfold nv nf
      rcases (show k = 0 ∨ k = 1 ∨ k = 2 by omega) with e | e | e
      · subst e
        have f0 := hk.resolve_left (by decide)
        rw [Int.add_zero] at f0
        rw [f0, h3, h4]; exact ⟨rfl, fun h => absurd (show (1 : Int) ≤ 0 from h) (by decide), rfl⟩
      · subst e
        have f1 := hk.resolve_left (by decide)
        have f0 := h5 0 (by decide) (by decide)
        rw [Int.add_zero] at f0
        rw [f0, f1, h3, h4]; exact ⟨rfl, fun _ => rfl, rfl⟩
      · subst e
        have f1 := h5 1 (by decide) (by decide)
        have f0 := h5 0 (by decide) (by decide)
        rw [Int.add_zero] at f0
        rw [f0, f1, h3, h4]; exact ⟨rfl, fun _ => rfl, rfl⟩
    have ex : k = 2 ∨ fgB (m 3) (m 2 3) (m 2 2 + k) = false → ∀ (μ : Int × Int × Mem → Nat) (I : Int × Int × Mem → Prop) (kk : Nat), T (some ((1 : Int), (v, k, m'))) (G I μ kk (fun q => q.2.2.1 = nf (m 3) (m 2 3) (m 2 2) ∧ (1 ≤ nf (m 3) (m 2 3) (m 2 2) → q.2.1 = nv (m 3) (m 2 3) (m 2 2)) ∧ q.2.2.2 2 2 = m 2 2 + nf (m 3) (m 2 3) (m 2 2) ∧ (∀ b, b ≠ 2 → q.2.2.2 2 b = m 2 b) ∧ ∀ a, a ≠ 2 → q.2.2.2 a = m a)) := fun hk μ I kk => T_out (by decide) ⟨(out hk).1, (out hk).2.1, (out hk).2.2, h6, h7⟩
    have ng : ¬ (m 2 2 + k < m 2 3 ∧ 48 ≤ m 3 (m 2 2 + k) ∧ m 3 (m 2 2 + k) ≤ 57) → fgB (m 3) (m 2 3) (m 2 2 + k) = false := fun h => by
      rw [← Bool.not_eq_true, fgB_iff]; exact h
    unfold eBX8_readNumber_5 ebX8_readNumber_5
    simp only [e5, h4, e3]
    refine T_if (fun hc => ex (Or.inl (by omega)) _ _ _) (fun hc => T_if (fun hd => ex (Or.inr (ng (by omega))) _ _ _) (fun hd => T_ck ⟨by omega, by omega⟩ (T_if (fun he => ex (Or.inr (ng (by omega))) _ _ _) (fun he => T_ck ⟨by omega, by omega⟩ (T_if (fun hf => ex (Or.inr (ng (by omega))) _ _ _) (fun hf => T_ck ⟨by omega, by omega⟩ ?_))))))
    have f : fgB (m 3) (m 2 3) (m 2 2 + k) = true := fgB_iff.mpr ⟨by omega, by omega, by omega⟩
    have hv : 0 ≤ v ∧ v ≤ 9 ∧ 10 * v + (m 3 (m 2 2 + k) - 48) = np0 (m 3) (m 2 2) (k + 1) := by
      rcases (show k = 0 ∨ k = 1 by omega) with e | e
      · subst e
        rw [h3]
        unfold np0
        rw [if_pos rfl, if_neg (by decide), if_pos (by decide), Int.add_zero]
        omega
      · subst e
        have f0 := fgB_iff.mp (h5 0 (by decide) (by decide))
        rw [Int.add_zero] at f0
        rw [h3]
        unfold np0
        rw [if_neg (by decide), if_pos rfl, if_neg (by decide), if_neg (by decide)]
        omega
    simp (disch := omega) only [w32_id]
    refine T_vv (T_vv (T_vm (T_go ⟨by simp only; omega, by simp only; omega, hv.2.2, ?_, fun j a b => ?_, fun b hb => ?_, fun a ha => ?_⟩ (by simp only; omega))))
    · simp only [ms_at]; omega
    · simp only at b
      by_cases e : j = k
      · rw [e]; exact f
      · exact h5 j a (by omega)
    · simp only
      rw [ms_y hb]; exact h6 b hb
    · simp only
      rw [ms_f ha]; exact h7 a ha
  · rintro r ⟨v, k, m'⟩ ⟨h1, h2, h3, h4, h5⟩
    simp only at h1 h2 h3 h4 h5
    unfold ebX8_readNumber_84 ebX8_readNumber_103 ebX8_readNumber_104 nr
    dsimp only
    rw [h1]
    refine T_if (fun hc => ?_) (fun hc => ?_)
    · rw [if_neg (by omega)]; exact T_some ⟨rfl, h3, h4, h5⟩
    · have hv := h2 (by omega)
      rw [hv]
      refine T_if (fun hd => ?_) (fun hd => T_if (fun he => ?_) (fun he => ?_))
      · rw [if_neg (by omega)]; exact T_some ⟨rfl, h3, h4, h5⟩
      · rw [if_neg (by omega)]; exact T_some ⟨rfl, h3, h4, h5⟩
      · rw [if_pos (by omega)]; exact T_some ⟨rfl, h3, h4, h5⟩
