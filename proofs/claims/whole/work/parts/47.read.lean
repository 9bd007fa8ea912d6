/-! ===== the text: signs ===== -/
def sg (t : Int → Int) (n a c : Int) : Int := if a < n ∧ t a = c then 1 else 0
theorem tX11_takeSign {g : Shp} {m : Mem} {c : Int} (hn : m 241 5 ≤ 200) (ha : 0 ≤ m 241 6 ∧ m 241 6 ≤ 1000) :
    T (eX11_takeSign g c m) (fun q => q.1 = sg (m 245) (m 241 5) (m 241 6) c ∧ q.2 = ms m 241 6 (m 241 6 + sg (m 245) (m 241 5) (m 241 6) c)) := by
  have no : ¬ (m 241 6 < m 241 5 ∧ m 245 (m 241 6) = c) → T (ebX11_takeSign_28 g m) (fun q => q.1 = sg (m 245) (m 241 5) (m 241 6) c ∧ q.2 = ms m 241 6 (m 241 6 + sg (m 245) (m 241 5) (m 241 6) c)) := by
    intro h
    unfold sg
    rw [if_neg h]
    unfold ebX11_takeSign_28 ebX11_takeSign_29 ebX11_takeSign_44
    refine T_it rfl (T_vm (T_ck (Or.inl rfl) (T_some ⟨rfl, ?_⟩)))
    simp only
    rw [w32_id (by omega) (by omega)]
  unfold eX11_takeSign ebX11_takeSign_0
  refine T_if (fun h => no (by omega)) (fun h => T_ck ⟨by omega, by omega⟩ (T_if (fun he => ?_) (fun he => no (fun q => he q.2))))
  unfold sg
  rw [if_pos ⟨by omega, he⟩]
  unfold ebX11_takeSign_29 ebX11_takeSign_44
  refine T_ie (by decide) (T_vm (T_ck (Or.inr rfl) (T_some ⟨rfl, ?_⟩)))
  simp only
  rw [w32_id (by omega) (by omega)]
theorem tX8_take {g : Shp} {m : Mem} {c : Int} (hn : m 2 3 ≤ 200) (ha : 0 ≤ m 2 2) :
    T (eX8_take g c m) (fun q => q.1 = sg (m 3) (m 2 3) (m 2 2) c ∧ q.2 2 2 = m 2 2 + sg (m 3) (m 2 3) (m 2 2) c ∧ (∀ b, b ≠ 2 → q.2 2 b = m 2 b) ∧ ∀ a, a ≠ 2 → q.2 a = m a) := by
  have no : ¬ (m 2 2 < m 2 3 ∧ m 3 (m 2 2) = c) → T (ebX8_take_24 g m) (fun q => q.1 = sg (m 3) (m 2 3) (m 2 2) c ∧ q.2 2 2 = m 2 2 + sg (m 3) (m 2 3) (m 2 2) c ∧ (∀ b, b ≠ 2 → q.2 2 b = m 2 b) ∧ ∀ a, a ≠ 2 → q.2 a = m a) := by
    intro h
    unfold sg
    rw [if_neg h]
    exact T_some ⟨rfl, by simp only; omega, fun _ _ => rfl, fun _ _ => rfl⟩
  unfold eX8_take ebX8_take_0
  refine T_if (fun h => no (by omega)) (fun h => T_ck ⟨by omega, by omega⟩ (T_if (fun he => ?_) (fun he => no (fun q => he q.2))))
  unfold sg
  rw [if_pos ⟨by omega, he⟩, w32_id (by omega) (by omega)]
  exact T_vm (T_some ⟨rfl, by simp only [ms_at], fun b hb => ms_y hb, fun a ha => ms_f ha⟩)
