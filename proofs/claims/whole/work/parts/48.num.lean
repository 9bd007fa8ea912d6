/-! ===== the text: numbers of one or two figures ===== -/
def fgB (t : Int → Int) (n a : Int) : Bool := decide (a < n ∧ 48 ≤ t a ∧ t a ≤ 57)
/-- how many figures stand there, and the number; -4: none -/
def nf (t : Int → Int) (n a : Int) : Int := if fgB t n a then (if fgB t n (a + 1) then 2 else 1) else 0
def nv (t : Int → Int) (n a : Int) : Int := if fgB t n a then (if fgB t n (a + 1) then 10 * (t a - 48) + (t (a + 1) - 48) else t a - 48) else -4
theorem fgB_iff {t : Int → Int} {n a : Int} : fgB t n a = true ↔ a < n ∧ 48 ≤ t a ∧ t a ≤ 57 := decide_eq_true_iff
/-- what stands behind k figures -/
def np (t : Int → Int) (a k : Int) : Int := if k = 0 then -4 else if k = 1 then t a - 48 else 10 * (t a - 48) + (t (a + 1) - 48)
theorem tX11_takeNumber {g : Shp} {m : Mem} (hn : m 241 5 ≤ 200) (ha : 0 ≤ m 241 6 ∧ m 241 6 ≤ 1000) :
    T (eX11_takeNumber g m) (fun q => q.1 = nv (m 245) (m 241 5) (m 241 6) ∧ q.2 241 6 = m 241 6 + nf (m 245) (m 241 5) (m 241 6) ∧ (∀ b, b ≠ 6 → q.2 241 b = m 241 b) ∧ ∀ a, a ≠ 241 → q.2 a = m a) := by
  unfold eX11_takeNumber ebX11_takeNumber_0
  refine T_bdl (Q := fun q => q.2.1 = nv (m 245) (m 241 5) (m 241 6) ∧ q.2.2.2 241 6 = m 241 6 + nf (m 245) (m 241 5) (m 241 6) ∧ (∀ b, b ≠ 6 → q.2.2.2 241 b = m 241 b) ∧ ∀ a, a ≠ 241 → q.2.2.2 a = m a)
    (iter2 (fun v k m' => 0 ≤ k ∧ k ≤ 2 ∧ v = np (m 245) (m 241 6) k ∧ m' 241 6 = m 241 6 + k ∧ (∀ j, 0 ≤ j → j < k → fgB (m 245) (m 241 5) (m 241 6 + j) = true) ∧ (∀ b, b ≠ 6 → m' 241 b = m 241 b) ∧ ∀ a, a ≠ 241 → m' a = m a) (fun _ k => (2 - k).toNat)
      ⟨by decide, by decide, rfl, by omega, fun j a b => by omega, fun _ _ => rfl, fun _ _ => rfl⟩ (by decide) ?_) ?_
  · rintro v k m' ⟨h1, h2, h3, h4, h5, h6, h7⟩
    have e5 : m' 241 5 = m 241 5 := h6 5 (by decide)
    have e245 : m' 245 = m 245 := h7 245 (by decide)
    have out : k = 2 ∨ fgB (m 245) (m 241 5) (m 241 6 + k) = false → v = nv (m 245) (m 241 5) (m 241 6) ∧ m' 241 6 = m 241 6 + nf (m 245) (m 241 5) (m 241 6) := by
      intro hk
      unfold nv nf
      rcases (show k = 0 ∨ k = 1 ∨ k = 2 by omega) with e | e | e
      · subst e
        have f0 := hk.resolve_left (by decide)
        rw [Int.add_zero] at f0
        rw [f0, h3, h4]; exact ⟨rfl, rfl⟩
      · subst e
        have f1 := hk.resolve_left (by decide)
        have f0 := h5 0 (by decide) (by decide)
        rw [Int.add_zero] at f0
        rw [f0, f1, h3, h4]; exact ⟨rfl, rfl⟩
      · subst e
        have f1 := h5 1 (by decide) (by decide)
        have f0 := h5 0 (by decide) (by decide)
        rw [Int.add_zero] at f0
        rw [f0, f1, h3, h4]; exact ⟨rfl, rfl⟩
    unfold eBX11_takeNumber_5 ebX11_takeNumber_5
    simp only [e5, h4, e245]
    refine T_if (fun hc => T_out (by decide) ⟨(out (Or.inl (by omega))).1, (out (Or.inl (by omega))).2, h6, h7⟩) (fun hc => T_if (fun hd => ?_) (fun hd => T_ck ⟨by omega, by omega⟩ (T_bd2 tX11_in ?_)))
    · have f : fgB (m 245) (m 241 5) (m 241 6 + k) = false := by
        rw [← Bool.not_eq_true, fgB_iff]; omega
      exact T_out (by decide) ⟨(out (Or.inr f)).1, (out (Or.inr f)).2, h6, h7⟩
    · intro r m2 q
      cases q
      by_cases hg : 48 ≤ m 245 (m 241 6 + k) ∧ m 245 (m 241 6 + k) ≤ 57
      · rw [if_pos hg]
        have f : fgB (m 245) (m 241 5) (m 241 6 + k) = true := fgB_iff.mpr ⟨by omega, hg⟩
        unfold ebX11_takeNumber_51
        simp only [h4, e245]
        have fin : ∀ z1 : Int, 10 * z1 + m 245 (m 241 6 + k) - 48 = np (m 245) (m 241 6) (k + 1) → 0 ≤ z1 ∧ z1 ≤ 9 → T (ck ((0 : Int) ≤ m 241 6 + k ∧ m 241 6 + k < 200) (vv (w32 ((w32 ((w32 (10 * z1)) + (m 245 (m 241 6 + k)))) - 48)) fun y3 => vm (ms m' 241 6 (w32 (m 241 6 + k + 1))) fun m4 => vv (w32 (k + 1)) fun y5 => some (0, (y3, y5, m4)))) (G (fun q => (fun (v k : Int) (m' : Mem) => 0 ≤ k ∧ k ≤ 2 ∧ v = np (m 245) (m 241 6) k ∧ m' 241 6 = m 241 6 + k ∧ (∀ j, 0 ≤ j → j < k → fgB (m 245) (m 241 5) (m 241 6 + j) = true) ∧ (∀ b, b ≠ 6 → m' 241 b = m 241 b) ∧ ∀ a, a ≠ 241 → m' a = m a) q.1 q.2.1 q.2.2) (fun q => (fun (_ k : Int) => (2 - k).toNat) q.1 q.2.1) ((fun (_ k : Int) => (2 - k).toNat) v k) (fun q => q.2.1 = nv (m 245) (m 241 5) (m 241 6) ∧ q.2.2.2 241 6 = m 241 6 + nf (m 245) (m 241 5) (m 241 6) ∧ (∀ b, b ≠ 6 → q.2.2.2 241 b = m 241 b) ∧ ∀ a, a ≠ 241 → q.2.2.2 a = m a)) := by
          intro z1 hz hz1
          simp (disch := omega) only [w32_id]
          refine T_ck ⟨by omega, by omega⟩ (T_vv (T_vm (T_vv (T_go ⟨by simp only; omega, by simp only; omega, hz, ?_, fun j a b => ?_, fun b hb => ?_, fun a ha => ?_⟩ (by simp only; omega)))))
          · simp only [ms_at]; omega
          · simp only at b
            by_cases e : j = k
            · rw [e]; exact f
            · exact h5 j a (by omega)
          · simp only
            rw [ms_y hb]; exact h6 b hb
          · simp only
            rw [ms_f ha]; exact h7 a ha
        refine T_ie (by decide) (T_if (fun hk => fin 0 ?_ (by decide)) (fun hk => fin v ?_ ?_))
        · subst hk
          unfold np
          rw [if_neg (by decide), if_pos (by decide), Int.add_zero]
          omega
        · have : k = 1 := by omega
          subst this
          rw [h3]
          unfold np
          rw [if_neg (by decide), if_pos rfl, if_neg (by decide), if_neg (by decide)]
          omega
        · have : k = 1 := by omega
          subst this
          have f0 := fgB_iff.mp (h5 0 (by decide) (by decide))
          rw [Int.add_zero] at f0
          rw [h3]
          unfold np
          rw [if_neg (by decide), if_pos rfl]
          omega
      · rw [if_neg hg]
        have f : fgB (m 245) (m 241 5) (m 241 6 + k) = false := by
          rw [← Bool.not_eq_true, fgB_iff]; exact fun q => hg q.2
        exact T_it rfl (T_out (by decide) ⟨(out (Or.inr f)).1, (out (Or.inr f)).2, h6, h7⟩)
  · rintro r ⟨v, k, m'⟩ h
    exact T_some h
