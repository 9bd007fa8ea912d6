/-- more cells, of kind 20, the old as they were -/
theorem Sh.x {g g' : Shp} {m m' : Mem} (h : Sh g m) (h1 : ∀ r, gk g r ≠ 0 → gk g' r = gk g r ∧ gl g' r = gl g r) (h2 : ∀ r, gk g' r ≠ 0 → gk g' r = gk g r ∨ gk g' r = 20) (h3 : ∀ r j, gk g r ≠ 0 → m' r j = m r j) : Sh g' m' := by
  obtain ⟨hT, hR, hD, hU⟩ := h
  have nz : ∀ q ∈ SHT, q.2.1 ≠ 0 := by decide +kernel
  have kk : ∀ {r : Int} {k : Nat}, gk g r = k → k ≠ 0 → gk g' r = k := fun ha hb => by rw [(h1 _ (by omega)).1]; exact ha
  have ll : ∀ {r : Int} {k : Nat} {n : Int}, gk g r = k → k ≠ 0 → gl g r = n → gl g' r = n := fun ha hb hc => by rw [(h1 _ (by omega)).2]; exact hc
  have mm : ∀ {r j : Int} {k : Nat}, gk g r = k → k ≠ 0 → m' r j = m r j := fun ha hb => h3 _ _ (by omega)
  have k1 : gk g 1 = 11 := (hT (1, 11, 0) (by decide +kernel)).1
  have k5 : gk g 5 = 1 := (hT (5, 1, 0) (by decide +kernel)).1
  refine ⟨fun q hq => ⟨kk (hT q hq).1 (nz q hq), ll (hT q hq).1 (nz q hq) (hT q hq).2⟩, fun q hq => ?_, ⟨?_, ?_, ?_⟩, fun r => ?_⟩
  · obtain ⟨a, b, c⟩ := SHR_ok q hq
    rw [mm (hT _ c).1 (nz _ c)]
    exact hR q hq
  · rw [mm k1 (by decide)]; exact kk hD.1 (by decide)
  · rw [mm k1 (by decide)]; exact kk hD.2.1 (by decide)
  · rw [mm k5 (by decide)]; exact kk hD.2.2 (by decide)
  · obtain ⟨u2, u6, u8, u10, u3, u24, u25, u26, u23⟩ := hU r
    have old : ∀ {k : Nat}, gk g' r = k → k ≠ 0 → k ≠ 20 → gk g r = k := fun ha hb hc => by
      rcases h2 r (by omega) with z | z <;> omega
    refine ⟨fun hk9 => by
      have q0 := old hk9 (by decide) (by decide)
      have q := u2 q0
      refine ⟨⟨by rw [mm q0 (by decide)]; exact q.1.1, kk q.1.2.1 (by decide), ll q.1.2.1 (by decide) q.1.2.2⟩, ⟨by rw [mm q0 (by decide)]; exact q.2.1.1, kk q.2.1.2.1 (by decide), ll q.2.1.2.1 (by decide) q.2.1.2.2⟩, ⟨by rw [mm q0 (by decide)]; exact q.2.2.1.1, kk q.2.2.1.2.1 (by decide), ll q.2.2.1.2.1 (by decide) q.2.2.1.2.2⟩, ⟨by rw [mm q0 (by decide)]; exact q.2.2.2.1.1, kk q.2.2.2.1.2.1 (by decide), ll q.2.2.2.1.2.1 (by decide) q.2.2.2.1.2.2⟩, ⟨by rw [mm q0 (by decide)]; exact q.2.2.2.2.1.1, kk q.2.2.2.2.1.2.1 (by decide), ll q.2.2.2.2.1.2.1 (by decide) q.2.2.2.2.1.2.2⟩, ⟨by rw [mm q0 (by decide)]; exact q.2.2.2.2.2.1.1, kk q.2.2.2.2.2.1.2.1 (by decide), ll q.2.2.2.2.2.1.2.1 (by decide) q.2.2.2.2.2.1.2.2⟩, ⟨by rw [mm q0 (by decide)]; exact q.2.2.2.2.2.2.1, kk q.2.2.2.2.2.2.2.1 (by decide), ll q.2.2.2.2.2.2.2.1 (by decide) q.2.2.2.2.2.2.2.2⟩⟩,
      fun hk9 => by
      have q0 := old hk9 (by decide) (by decide)
      have q := u6 q0
      refine ⟨⟨by rw [mm q0 (by decide)]; exact q.1.1, kk q.1.2.1 (by decide), ll q.1.2.1 (by decide) q.1.2.2⟩, ⟨by rw [mm q0 (by decide)]; exact q.2.1, kk q.2.2.1 (by decide), ll q.2.2.1 (by decide) q.2.2.2⟩⟩,
      fun hk9 => by
      have q0 := old hk9 (by decide) (by decide)
      have q := u8 q0
      refine ⟨⟨by rw [mm q0 (by decide)]; exact q.1.1, kk q.1.2.1 (by decide), ll q.1.2.1 (by decide) q.1.2.2⟩, ⟨by rw [mm q0 (by decide)]; exact q.2.1.1, kk q.2.1.2.1 (by decide), ll q.2.1.2.1 (by decide) q.2.1.2.2⟩, ⟨by rw [mm q0 (by decide)]; exact q.2.2.1.1, kk q.2.2.1.2.1 (by decide), ll q.2.2.1.2.1 (by decide) q.2.2.1.2.2⟩, ⟨by rw [mm q0 (by decide)]; exact q.2.2.2.1, kk q.2.2.2.2.1 (by decide), ll q.2.2.2.2.1 (by decide) q.2.2.2.2.2⟩⟩,
      fun hk9 => by
      have q0 := old hk9 (by decide) (by decide)
      have q := u10 q0
      refine ⟨⟨by rw [mm q0 (by decide)]; exact q.1.1, kk q.1.2.1 (by decide), ll q.1.2.1 (by decide) q.1.2.2⟩, ⟨by rw [mm q0 (by decide)]; exact q.2.1.1, kk q.2.1.2.1 (by decide), ll q.2.1.2.1 (by decide) q.2.1.2.2⟩, ⟨by rw [mm q0 (by decide)]; exact q.2.2.1, kk q.2.2.2.1 (by decide), ll q.2.2.2.1 (by decide) q.2.2.2.2⟩⟩,
      fun hk9 => by
      have q0 := old hk9 (by decide) (by decide)
      have q := u3 q0
      refine ⟨⟨by rw [mm q0 (by decide)]; exact q.1.1, kk q.1.2.1 (by decide), ll q.1.2.1 (by decide) q.1.2.2⟩, ⟨by rw [mm q0 (by decide)]; exact q.2.1, kk q.2.2.1 (by decide), ll q.2.2.1 (by decide) q.2.2.2⟩⟩,
      fun hk9 => by
      have q0 := old hk9 (by decide) (by decide)
      exact ⟨ll q0 (by decide) (u24 q0).1, fun i i0 i1 => ⟨by rw [mm q0 (by decide)]; exact ((u24 q0).2 i i0 i1).1, kk ((u24 q0).2 i i0 i1).2 (by decide)⟩⟩,
      fun hk9 => by
      have q0 := old hk9 (by decide) (by decide)
      exact ⟨ll q0 (by decide) (u25 q0).1, fun i i0 i1 => ⟨by rw [mm q0 (by decide)]; exact ((u25 q0).2 i i0 i1).1, kk ((u25 q0).2 i i0 i1).2 (by decide)⟩⟩,
      fun hk9 => by
      have q0 := old hk9 (by decide) (by decide)
      exact ⟨ll q0 (by decide) (u26 q0).1, fun i i0 i1 => ⟨by rw [mm q0 (by decide)]; exact ((u26 q0).2 i i0 i1).1, kk ((u26 q0).2 i i0 i1).2 (by decide)⟩⟩,
      fun hk9 i i0 i1 => by
      have q0 := old hk9 (by decide) (by decide)
      rw [ll q0 (by decide) rfl] at i1
      rw [mm q0 (by decide)]
      exact kk (u23 q0 i i0 i1) (by decide)⟩
theorem Sh.wo {g : Shp} {m m' : Mem} (h : Sh g m) {v : Int} (he : m' = ms m 5 2 v) (hv : gk g v = 20) : Sh g m' := by
  subst he
  obtain ⟨hT, hR, hD, hU⟩ := h
  have h1 : gk g 1 = 11 := (hT (1, 11, 0) (by decide +kernel)).1
  have h5 : gk g 5 = 1 := (hT (5, 1, 0) (by decide +kernel)).1
  have ne : ∀ {a b : Int} {k : Nat}, gk g a = k → k ≠ 1 → ms m 5 2 v a b = m a b := fun ha hb => ms_ne (fun q => hb (by rw [← ha, q.1, h5]))
  refine ⟨hT, fun q hq => ?_, ⟨?_, ?_, ?_⟩, fun a => ?_⟩
  · have hx : ¬ (q.1 = 5 ∧ q.2.2.1 = 2) := by
      have hall : ∀ q ∈ SHR, ¬ (q.1 = 5 ∧ q.2.2.1 = 2) := by decide +kernel
      exact hall q hq
    rw [ms_ne hx]
    exact hR q hq
  · rw [ne h1 (by decide)]; exact hD.1
  · rw [ne h1 (by decide)]; exact hD.2.1
  · rw [ms_at]; exact hv
  · obtain ⟨u2, u6, u8, u10, u3, u24, u25, u26, u23⟩ := hU a
    refine ⟨fun hk9 => by
      have q := u2 hk9
      refine ⟨⟨by rw [ne hk9 (by decide)]; exact q.1.1, q.1.2⟩, ⟨by rw [ne hk9 (by decide)]; exact q.2.1.1, q.2.1.2⟩, ⟨by rw [ne hk9 (by decide)]; exact q.2.2.1.1, q.2.2.1.2⟩, ⟨by rw [ne hk9 (by decide)]; exact q.2.2.2.1.1, q.2.2.2.1.2⟩, ⟨by rw [ne hk9 (by decide)]; exact q.2.2.2.2.1.1, q.2.2.2.2.1.2⟩, ⟨by rw [ne hk9 (by decide)]; exact q.2.2.2.2.2.1.1, q.2.2.2.2.2.1.2⟩, ⟨by rw [ne hk9 (by decide)]; exact q.2.2.2.2.2.2.1, q.2.2.2.2.2.2.2⟩⟩,
      fun hk9 => by
      have q := u6 hk9
      refine ⟨⟨by rw [ne hk9 (by decide)]; exact q.1.1, q.1.2⟩, ⟨by rw [ne hk9 (by decide)]; exact q.2.1, q.2.2⟩⟩,
      fun hk9 => by
      have q := u8 hk9
      refine ⟨⟨by rw [ne hk9 (by decide)]; exact q.1.1, q.1.2⟩, ⟨by rw [ne hk9 (by decide)]; exact q.2.1.1, q.2.1.2⟩, ⟨by rw [ne hk9 (by decide)]; exact q.2.2.1.1, q.2.2.1.2⟩, ⟨by rw [ne hk9 (by decide)]; exact q.2.2.2.1, q.2.2.2.2⟩⟩,
      fun hk9 => by
      have q := u10 hk9
      refine ⟨⟨by rw [ne hk9 (by decide)]; exact q.1.1, q.1.2⟩, ⟨by rw [ne hk9 (by decide)]; exact q.2.1.1, q.2.1.2⟩, ⟨by rw [ne hk9 (by decide)]; exact q.2.2.1, q.2.2.2⟩⟩,
      fun hk9 => by
      have q := u3 hk9
      refine ⟨⟨by rw [ne hk9 (by decide)]; exact q.1.1, q.1.2⟩, ⟨by rw [ne hk9 (by decide)]; exact q.2.1, q.2.2⟩⟩,
      fun hk9 => ⟨(u24 hk9).1, fun i h0 h1 => ⟨by rw [ne hk9 (by decide)]; exact ((u24 hk9).2 i h0 h1).1, ((u24 hk9).2 i h0 h1).2⟩⟩,
      fun hk9 => ⟨(u25 hk9).1, fun i h0 h1 => ⟨by rw [ne hk9 (by decide)]; exact ((u25 hk9).2 i h0 h1).1, ((u25 hk9).2 i h0 h1).2⟩⟩,
      fun hk9 => ⟨(u26 hk9).1, fun i h0 h1 => ⟨by rw [ne hk9 (by decide)]; exact ((u26 hk9).2 i h0 h1).1, ((u26 hk9).2 i h0 h1).2⟩⟩,
      fun hk9 i h0 h1 => by rw [ne hk9 (by decide)]; exact u23 hk9 i h0 h1⟩
theorem Sh.nw {g g' : Shp} {m m' : Mem} (h : Sh g m) (hg : gOk g) {len : Int} {sl : Nat} (hg' : g' = gA g 20 len sl) (hm' : m' = mA g m) : Sh g' m' := by
  have e1 : gn g = g.1 := rfl
  refine h.x (gA_X hg hg').2.2 (fun r hr => ?_) (fun r j hr => ?_)
  · subst hg'
    by_cases hne : r = (g.1 : Int) + 1
    · exact Or.inr (by simp [gk, gA, hne])
    · exact Or.inl (by simp [gk, gA, hne])
  · subst hm'
    have := hg.1 r hr
    have hne : ¬ r = (g.1 : Int) + 1 := by omega
    simp [mA, hne]
