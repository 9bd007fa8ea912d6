/-! ===== the program's lists ===== -/
def LayM (m : Mem) (x : Int) : List Q4 → Prop
  | [] => True
  | y :: L => (m (x + 1) (3 * L.length) = y.1 ∧ m (x + 1) (3 * L.length + 1) = y.2.1 ∧ m (x + 1) (3 * L.length + 2) = y.2.2.1 ∧ m (x + 2) L.length = y.2.2.2) ∧ LayM m x L
theorem LayM_c {m m' : Mem} {x : Int} : ∀ {L : List Q4}, LayM m x L → (∀ j : Int, j < 3 * L.length → m' (x + 1) j = m (x + 1) j) → (∀ j : Int, j < L.length → m' (x + 2) j = m (x + 2) j) → LayM m' x L
  | [], _, _, _ => trivial
  | y :: L, h, h1, h2 => by
    have e : ((y :: L).length : Int) = L.length + 1 := by simp
    rw [e] at h1 h2
    refine ⟨?_, LayM_c h.2 (fun j hj => h1 j (by omega)) (fun j hj => h2 j (by omega))⟩
    rw [h1 _ (by omega), h1 _ (by omega), h1 _ (by omega), h2 _ (by omega)]
    exact h.1
theorem LayM_at {m : Mem} {x : Int} : ∀ {L : List Q4}, LayM m x L → ∀ j : Int, 0 ≤ j → j < L.length → ∃ y, y ∈ L ∧ m (x + 1) (3 * j) = y.1 ∧ m (x + 1) (3 * j + 1) = y.2.1 ∧ m (x + 1) (3 * j + 2) = y.2.2.1 ∧ m (x + 2) j = y.2.2.2
  | [], _, j, h0, h1 => absurd h1 (by simp; omega)
  | y :: L, h, j, h0, h1 => by
    have e : ((y :: L).length : Int) = L.length + 1 := by simp
    rw [e] at h1
    by_cases q : j = L.length
    · rw [q]; exact ⟨y, List.mem_cons_self .., h.1⟩
    · obtain ⟨y', h2, h3⟩ := LayM_at h.2 j h0 (by omega)
      exact ⟨y', List.mem_cons_of_mem _ h2, h3⟩
theorem LayM_of {m : Mem} {x : Int} : ∀ {L : List Q4}, LayM m x L → ∀ y, y ∈ L → ∃ j : Int, 0 ≤ j ∧ j < L.length ∧ m (x + 1) (3 * j) = y.1 ∧ m (x + 1) (3 * j + 1) = y.2.1 ∧ m (x + 1) (3 * j + 2) = y.2.2.1 ∧ m (x + 2) j = y.2.2.2
  | [], _, y, h => absurd h (by simp)
  | y' :: L, h, y, hy => by
    have e : ((y' :: L).length : Int) = L.length + 1 := by simp
    rw [e]
    rcases List.mem_cons.mp hy with q | q
    · rw [q]; exact ⟨L.length, by omega, by omega, h.1⟩
    · obtain ⟨j, h1, h2, h3⟩ := LayM_of h.2 y q
      exact ⟨j, h1, by omega, h3⟩
/-- the list at x holds so many entries, these -/
def L46 (L : List Q4) : Prop := ∀ y : Q4, y ∈ L → y.1 ≤ 6 ∧ y.2.1 ≤ 6 ∧ y.2.2.1 ≤ 6 ∧ y.2.2.2 ≤ 4
def LC (m : Mem) (x : Int) (st : Nat × List Q4) : Prop := st.1 = st.2.length ∧ st.1 ≤ 16 ∧ m x 2 = st.1 ∧ LayM m x st.2 ∧ L46 st.2
def LFr (x : Int) (m m' : Mem) : Prop := (∀ b, b ≠ 2 → m' x b = m x b) ∧ ∀ a, a ≠ x → a ≠ x + 1 → a ≠ x + 2 → m' a = m a
theorem LFr.rf (x : Int) (m : Mem) : LFr x m m := ⟨fun _ _ => rfl, fun _ _ _ _ => rfl⟩
theorem LFr.tr {x : Int} {m m' m'' : Mem} (h : LFr x m m') (h2 : LFr x m' m'') : LFr x m m'' := ⟨fun b hb => (h2.1 b hb).trans (h.1 b hb), fun a a1 a2 a3 => (h2.2 a a1 a2 a3).trans (h.2 a a1 a2 a3)⟩
theorem tX2_can {g : Shp} {m : Mem} {x a b c n : Int} (hn : 0 ≤ n ∧ n < 16) : T (eX2_canBeTakenFrom g x a b c n m) (fun q => q = ((if m (x + 1) (3 * n) ≤ a ∧ m (x + 1) (3 * n + 1) ≤ b ∧ m (x + 1) (3 * n + 2) ≤ c then 1 else 0), m)) := by
  unfold eX2_canBeTakenFrom ebX2_canBeTakenFrom_0 ebX2_canBeTakenFrom_47 ebX2_canBeTakenFrom_48
  rw [show n * 3 = 3 * n by omega, w32_id (x := 3 * n) (by omega) (by omega)]
  refine T_vv ?_
  simp (disch := omega) only [w32_id]
  refine (T_ck ⟨by omega, by omega⟩ (T_if (fun h => T_ck (by decide) (T_some (by rw [if_neg (by omega)]))) (fun h => T_ck ⟨by omega, by omega⟩ (T_if (fun h2 => T_ck (by decide) (T_some (by rw [if_neg (by omega)]))) (fun h2 => T_ck ⟨by omega, by omega⟩ (T_if (fun h3 => T_ck (by decide) (T_some (by rw [if_neg (by omega)]))) (fun h3 => T_ck (by decide) (T_some (by rw [if_pos (by omega)])))))))))
theorem tX2_add {g : Shp} {m : Mem} {x : Int} {n : Nat} {L : List Q4} {a b c d : Nat} (hd4 : d ≤ 4) (h : LC m x (n, L)) : T (eX2_add g x a b c d m) (fun q => LC q.2 x (ladd n L a b c d) ∧ LFr x m q.2) := by
  obtain ⟨h1, h2, h3, h4, h46⟩ := id h
  dsimp only at h1 h2 h3 h4 h46
  have hl : ladd n L a b c d = cond (cond (Nat.ble 7 a) true (cond (Nat.ble 7 b) true (cond (Nat.ble 7 c) true (cond (Nat.ble 16 n) true (any4 a b c d L))))) (n, L) (Nat.succ n, (a, b, c, d) :: L) := by
    unfold ladd
    rw [frc_eq, frc_eq, frc_eq]
  have same : (7 ≤ a ∨ 7 ≤ b ∨ 7 ≤ c ∨ 16 ≤ n ∨ any4 a b c d L = true) → ∀ m', m' = m → LC m' x (ladd n L a b c d) ∧ LFr x m m' := by
    intro hh m' e
    subst e
    rw [hl, cond_or.mpr (by rw [Nat.ble_eq]; rcases hh with q | hh; exact Or.inl q; right; rw [cond_or, Nat.ble_eq]; rcases hh with q | hh; exact Or.inl q; right; rw [cond_or, Nat.ble_eq]; rcases hh with q | hh; exact Or.inl q; right; rw [cond_or, Nat.ble_eq]; exact hh), cond_true]
    exact ⟨h, LFr.rf x m'⟩
  unfold eX2_add ebX2_add_0 ebX2_add_27
  refine T_if (fun q => T_some (same (by omega) m rfl)) (fun q1 => T_if (fun q => T_some (same (by omega) m rfl)) (fun q2 => T_if (fun q => T_some (same (by omega) m rfl)) (fun q3 => T_if (fun q4 => ?_) (fun q => T_some (same (by omega) m rfl)))))
  refine T_bdl (Q := fun q => q.2.2 = m ∧ ((q.1 = 1 ∧ any4 a b c d L = true) ∨ q.1 = 2 ∧ ¬ any4 a b c d L = true))
    (iter1 (fun k m' => (0 ≤ k ∧ k ≤ n) ∧ m' = m ∧ ∀ j, 0 ≤ j → j < k → ¬ (m (x + 2) j ≤ d ∧ m (x + 1) (3 * j) ≤ a ∧ m (x + 1) (3 * j + 1) ≤ b ∧ m (x + 1) (3 * j + 2) ≤ c)) (fun k => (n - k).toNat) ⟨by omega, rfl, fun j a b => by omega⟩ (by omega) ?_) ?_
  · rintro k m' ⟨k1, e, k3⟩
    subst e
    unfold eBX2_add_31 ebX2_add_31 ebX2_add_65
    simp only
    rw [h3, w32_id (by omega) (by omega)]
    refine T_if (fun hc => T_out (by decide) ⟨rfl, Or.inr ⟨rfl, fun hany => ?_⟩⟩) (fun hc => T_ck ⟨by omega, by omega⟩ ?_)
    · obtain ⟨y, y1, y2⟩ := any4_iff.mp hany
      obtain ⟨j, j0, j1, j2, j3, j4, j5⟩ := LayM_of h4 y y1
      unfold q4L at y2
      dsimp only at y2
      exact k3 j j0 (by omega) (by omega)
    · have go : ¬ (m' (x + 2) k ≤ d ∧ m' (x + 1) (3 * k) ≤ a ∧ m' (x + 1) (3 * k + 1) ≤ b ∧ m' (x + 1) (3 * k + 2) ≤ c) → T (vv (k + 1) fun y1 => some ((0 : Int), (y1, m'))) (G (fun q => (fun (k : Int) (m'' : Mem) => (0 ≤ k ∧ k ≤ n) ∧ m'' = m' ∧ ∀ j, 0 ≤ j → j < k → ¬ (m' (x + 2) j ≤ d ∧ m' (x + 1) (3 * j) ≤ a ∧ m' (x + 1) (3 * j + 1) ≤ b ∧ m' (x + 1) (3 * j + 2) ≤ c)) q.1 q.2) (fun q => (fun k : Int => (n - k).toNat) q.1) ((fun k : Int => (n - k).toNat) k) (fun q => q.2.2 = m' ∧ ((q.1 = 1 ∧ any4 a b c d L = true) ∨ q.1 = 2 ∧ ¬ any4 a b c d L = true))) := by
        intro hno
        refine T_vv (T_go ⟨⟨by simp only; omega, by simp only; omega⟩, rfl, fun j j0 j1 => ?_⟩ (by simp only; omega))
        simp only at j1
        by_cases q : j = k
        · rw [q]; exact hno
        · exact k3 j j0 (by omega)
      refine T_if (fun hd => go (by omega)) (fun hd => T_bd2 (tX2_can ⟨by omega, by omega⟩) ?_)
      intro r m2 e
      obtain ⟨er, em⟩ := Prod.mk.inj e
      rw [em]
      by_cases hq : m' (x + 1) (3 * k) ≤ a ∧ m' (x + 1) (3 * k + 1) ≤ b ∧ m' (x + 1) (3 * k + 2) ≤ c
      · rw [if_pos hq] at er
        subst er
        refine T_ie (by decide) (T_out (by decide) ⟨rfl, Or.inl ⟨rfl, any4_iff.mpr ?_⟩⟩)
        obtain ⟨y, y1, y2, y3, y4, y5⟩ := LayM_at h4 k (by omega) (by omega)
        exact ⟨y, y1, by unfold q4L; dsimp only; omega⟩
      · rw [if_neg hq] at er
        subst er
        exact T_it rfl (go (fun q => hq q.2))
  · rintro cc ⟨k, m'⟩ ⟨e, h5⟩
    dsimp only at e h5 ⊢
    subst e
    rcases h5 with ⟨e, h5⟩ | ⟨e, h5⟩
    · subst e
      exact T_it rfl (T_some (same (Or.inr (Or.inr (Or.inr (Or.inr h5)))) m' rfl))
    · subst e
      refine T_ie (by decide) ?_
      unfold ebX2_add_71
      have hl2 : ladd n L a b c d = (n + 1, (a, b, c, d) :: L) := by
        rw [hl]
        have : (cond (Nat.ble 7 a) true (cond (Nat.ble 7 b) true (cond (Nat.ble 7 c) true (cond (Nat.ble 16 n) true (any4 a b c d L))))) = false := by
          rw [← Bool.not_eq_true, cond_or, cond_or, cond_or, cond_or, Nat.ble_eq, Nat.ble_eq, Nat.ble_eq, Nat.ble_eq]
          rintro (q | q | q | q | q)
          · omega
          · omega
          · omega
          · omega
          · exact h5 q
        rw [this]; rfl
      rw [h3, show ((n : Int) * 3) = 3 * n by omega, w32_id (x := 3 * (n : Int)) (by omega) (by omega)]
      refine T_ck ⟨by omega, by omega⟩ (T_vm' (fun m1 e1 => ?_))
      have s1 : m1 x 2 = n := by rw [e1, ms_x (by omega)]; exact h3
      rw [s1, show ((n : Int) * 3) = 3 * n by omega, w32_id (x := 3 * (n : Int)) (by omega) (by omega), w32_id (x := 3 * (n : Int) + 1) (by omega) (by omega)]
      refine T_ck ⟨by omega, by omega⟩ (T_vm' (fun m2 e2 => ?_))
      have s2 : m2 x 2 = n := by rw [e2, ms_x (by omega)]; exact s1
      rw [s2, show ((n : Int) * 3) = 3 * n by omega, w32_id (x := 3 * (n : Int)) (by omega) (by omega), w32_id (x := 3 * (n : Int) + 2) (by omega) (by omega)]
      refine T_ck ⟨by omega, by omega⟩ (T_vm' (fun m3 e3 => ?_))
      have s3 : m3 x 2 = n := by rw [e3, ms_x (by omega)]; exact s2
      rw [s3]
      refine T_ck ⟨by omega, by omega⟩ (T_vm' (fun m4 e4 => ?_))
      have s4 : m4 x 2 = n := by rw [e4, ms_x (by omega)]; exact s3
      rw [s4, w32_id (by omega) (by omega)]
      refine T_vm' (fun m5 e5 => T_some ?_)
      dsimp only
      rw [hl2]
      have t1 : ∀ j : Int, j < 3 * n → m5 (x + 1) j = m' (x + 1) j := fun j hj => by rw [e5, ms_x (by omega), e4, ms_x (by omega), e3, ms_y (by omega), e2, ms_y (by omega), e1, ms_y (by omega)]
      have t2 : ∀ j : Int, j < n → m5 (x + 2) j = m' (x + 2) j := fun j hj => by rw [e5, ms_x (by omega), e4, ms_y (by omega), e3, ms_x (by omega), e2, ms_x (by omega), e1, ms_x (by omega)]
      refine ⟨⟨by simp [h1], by dsimp only; omega, by dsimp only; rw [e5, ms_at]; omega, ⟨⟨?_, ?_, ?_, ?_⟩, LayM_c h4 (fun j hj => t1 j (by omega)) (fun j hj => t2 j (by omega))⟩, ?_⟩, fun bb hb => ?_, fun aa a1 a2 a3 => ?_⟩
      · rw [← h1, e5, ms_x (by omega), e4, ms_x (by omega), e3, ms_y (by omega), e2, ms_y (by omega), e1, ms_at]
      · rw [← h1, e5, ms_x (by omega), e4, ms_x (by omega), e3, ms_y (by omega), e2, ms_at]
      · rw [← h1, e5, ms_x (by omega), e4, ms_x (by omega), e3, ms_at]
      · rw [← h1, e5, ms_x (by omega), e4, ms_at]
      · intro y hy
        rcases List.mem_cons.mp hy with q | q
        · rw [q]; dsimp only; omega
        · exact h46 y q
      · rw [e5, ms_y hb, e4, ms_x (by omega), e3, ms_x (by omega), e2, ms_x (by omega), e1, ms_x (by omega)]
      · rw [e5, ms_f a1, e4, ms_f a3, e3, ms_f a2, e2, ms_f a2, e1, ms_f a2]
