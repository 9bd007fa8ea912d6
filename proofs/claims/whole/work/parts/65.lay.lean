theorem Done.ft {m m' : Mem} (h : Core m) (h1 : m' 1 = m 1) (h23 : m' 2 3 = m 2 3) (hf : ∀ a, a ≠ 2 → a ≠ 4 → a ≠ 241 → (a < m 1 7 ∨ m 1 7 + 13 < a) → (a < 246 ∨ 251 < a) → m' a = m a) (h3 : m' 241 3 = m 241 3) (h5 : m' 241 5 = m 241 5) (h20 : m' 241 20 = m 241 20) : Done m m' := by
  obtain ⟨ht, hw, hs, hp, ⟨hr, hr2⟩, hq⟩ := h
  have hP : (m 1 6 = 177 ∧ m 1 7 = 191) ∨ (m 1 6 = 191 ∧ m 1 7 = 177) := hs
  have hf' : ∀ a, a ≠ 2 → a ≠ 4 → a ≠ 241 → (a < 177 ∨ 204 < a) → (a < 246 ∨ 251 < a) → m' a = m a := fun a a1 a2 a3 a4 a5 => hf a a1 a2 a3 (by omega) a5
  have hd : dt m' = dt m := dt_c h20 (fun a b c => hf' a (by omega) (by omega) (by omega) (by omega) (by omega))
  refine ⟨⟨ht.c h5 h23 (hf' 3 (by decide) (by decide) (by decide) (by decide) (by decide)) (hf' 245 (by decide) (by decide) (by decide) (by decide) (by decide)), by rw [hd]; exact hw, by unfold ISw; rw [h1]; exact hs, ?_, ⟨?_, ?_⟩, hq.c hd (fun a b c => hf' a (by omega) (by omega) (by omega) (by omega) (by omega)) h3 (hf' 244 (by decide) (by decide) (by decide) (by decide) (by decide))⟩, hd, fun a ha => hf' a (by omega) (by omega) (by omega) (by omega) (by omega), Or.inl ⟨fun a ha => hf' a (by omega) (by omega) (by omega) (by omega) (by omega), fun k _ _ => by rw [hf' 242 (by decide) (by decide) (by decide) (by decide) (by decide)]⟩⟩
  · rw [h1, hd]
    refine hp.c hw.1.2 (fun a b c => hf a (by omega) (by omega) (by omega) (by omega) (by omega))
  · rw [hf' 242 (by decide) (by decide) (by decide) (by decide) (by decide), rowC_c (fun x a b => hf' x (by omega) (by omega) (by omega) (by omega) (by omega))]
    exact hr
  · rw [hd, hf' 242 (by decide) (by decide) (by decide) (by decide) (by decide)]
    exact hr2
theorem ITx.tx {m : Mem} (h : ITx m) : Tx m (m 245) (m 241 5) := ⟨h.2.1, h.1, fun k a b => (h.2.2 k a b).1⟩
/-- both sides have read -/
def Rd (m m' : Mem) (r : Int) : Prop := m' 1 = m 1 ∧ m' 2 3 = m 2 3 ∧ (∀ a, a ≠ 2 → a ≠ 4 → a ≠ 241 → (a < m 1 7 ∨ m 1 7 + 13 < a) → (a < 246 ∨ 251 < a) → m' a = m a) ∧ (∀ b, b ≠ 6 → b ≠ 8 → b ≠ 10 → b ≠ 15 → b ≠ 16 → b ≠ 17 → b ≠ 18 → m' 241 b = m 241 b) ∧ (0 ≤ r ∨ r = -4 ∧ RI m' (pR (m 245) (m 241 5) 300 0 S0).2)
theorem Rd.done {m m' : Mem} {r : Int} (h : Core m) (h2 : Rd m m' r) : Done m m' := Done.ft h h2.1 h2.2.1 h2.2.2.1 (h2.2.2.2.1 3 (by decide) (by decide) (by decide) (by decide) (by decide) (by decide) (by decide)) (h2.2.2.2.1 5 (by decide) (by decide) (by decide) (by decide) (by decide) (by decide) (by decide)) (h2.2.2.2.1 20 (by decide) (by decide) (by decide) (by decide) (by decide) (by decide) (by decide))
/-- the program's reading: what the reference still has to do -/
def Rd1 (m m1 : Mem) (r : Int) : Prop := m1 1 = m 1 ∧ m1 2 3 = m 2 3 ∧ (∀ a, a ≠ 2 → a ≠ 4 → (a < m 1 7 ∨ m 1 7 + 13 < a) → m1 a = m a) ∧ r = (pR (m 245) (m 241 5) 300 0 S0).1 ∧ ((0 ≤ r) ∨ r = -4 ∧ CI m1 (m 1 7) (pR (m 245) (m 241 5) 300 0 S0).2 ∧ WSt (pR (m 245) (m 241 5) 300 0 S0).2)
theorem rd_class {g : Shp} {m : Mem} (hg2 : gl g (m 1 7 + 2) = 9) (hg4 : gl g (m 1 7 + 4) = 400) (h : Core m) : T (eX8_firstFault g (m 1 7) m) (fun q => Rd1 m q.2 q.1) := by
  have hs : (m 1 6 = 177 ∧ m 1 7 = 191) ∨ (m 1 6 = 191 ∧ m 1 7 = 177) := h.2.2.1
  refine T_mono (tX8_firstFault (by omega) hg2 hg4 h.1.tx) ?_
  rintro ⟨r, m1⟩ ⟨q1, q2, q3, q4⟩
  exact ⟨q2 1 (by decide) (by decide) (by omega), q1 3 (by decide), q2, q3, q4⟩
theorem rd_ref {g : Shp} {m m1 : Mem} {r : Int} (h : Core m) (h1 : Rd1 m m1 r) : T (eX11_readText g m1) (fun q => q.1 = r ∧ Rd m q.2 r) := by
  have hs : (m 1 6 = 177 ∧ m 1 7 = 191) ∨ (m 1 6 = 191 ∧ m 1 7 = 177) := h.2.2.1
  obtain ⟨k1, k2, k3, k4, k5⟩ := h1
  have e241 : m1 241 = m 241 := k3 241 (by decide) (by decide) (by omega)
  refine T_mono (tX11_readText (k3 245 (by decide) (by decide) (by omega)) (by rw [e241]) h.1.1.2) ?_
  rintro ⟨r2, m2⟩ ⟨q1, q2, q3⟩
  dsimp only at q1 q2 q3
  refine ⟨q2.trans k4.symm, ?_, ?_, fun a a1 a2 a3 a4 a5 => ?_, fun b b1 b2 b3 b4 b5 b6 b7 => ?_, ?_⟩
  · dsimp only; rw [q1.2 1 (by decide) (by decide)]; exact k1
  · dsimp only; rw [q1.2 2 (by decide) (by decide)]; exact k2
  · dsimp only; rw [q1.2 a a3 a5]; exact k3 a a1 a2 a4
  · dsimp only; rw [q1.1 b b1 b2 b3 b4 b5 b6 b7, e241]
  · rw [← k4] at q2
    subst q2
    rcases k5 with e | ⟨e, k6, k7⟩
    · exact Or.inl e
    · rcases q3 with e2 | ⟨_, q4⟩
      · omega
      · exact Or.inr ⟨e, q4⟩
theorem op_fault {g : Shp} {m : Mem} (hg2 : gl g (m 1 7 + 2) = 9) (hg4 : gl g (m 1 7 + 4) = 400) (h : Core m) : Two (eX10_fault g m) (eX11_fault g) (Done m) := by
  unfold Two eX10_fault ebX10_fault_0
  refine T_bd2 (rd_class hg2 hg4 h) (fun r m1 h1 => T_some ?_)
  dsimp only
  unfold eX11_fault ebX11_fault_0
  refine T_bd2 (rd_ref h h1) ?_
  rintro r2 m2 ⟨e, h2⟩
  dsimp only at e h2
  exact T_some ⟨e.symm, h2.done h⟩
/-! ===== the reference takes what was read ===== -/
def layR (j : Int) (b : Int → Int) (k : Int) : Int := if k = 0 then j else if k < 10 then b (k - 1) else if k < 13 then -4 else if k < 33 then 0 else -4
theorem tX11_takeRead {g : Shp} {m : Mem} (hg : gl g 242 = 433) : T (eX11_takeRead g m) (fun q => q.2 241 20 = m 241 10 ∧ q.2 241 3 = 0 ∧ (∀ b, b ≠ 3 → b ≠ 20 → q.2 241 b = m 241 b) ∧ (∀ x, x ≠ 241 → x ≠ 242 → (x < 252 ∨ 256 < x) → q.2 x = m x)
    ∧ (∀ k, 0 ≤ k → k < 3 → q.2 252 k = m 246 k ∧ q.2 253 k = m 248 k ∧ q.2 255 k = m 250 k) ∧ (∀ k, 0 ≤ k → k < 15 → q.2 254 k = m 249 k) ∧ (∀ k, 0 ≤ k → k < 180 → q.2 256 k = m 251 k) ∧ ∀ k, 0 ≤ k → k < 433 → q.2 242 k = layR (m 241 8) (m 247) k) := by
  unfold eX11_takeRead ebX11_takeRead_0
  refine T_vm' (fun m1 e1 => ?_)
  refine T_bdl (Q := fun q => (∀ k, 0 ≤ k → k < 3 → q.2.2 252 k = m 246 k ∧ q.2.2 253 k = m 248 k ∧ q.2.2 255 k = m 250 k) ∧ ∀ x, x ≠ 252 → x ≠ 253 → x ≠ 255 → q.2.2 x = m1 x)
    (iter1 (fun k m' => (0 ≤ k ∧ k ≤ 3) ∧ (∀ j, 0 ≤ j → j < k → m' 252 j = m 246 j ∧ m' 253 j = m 248 j ∧ m' 255 j = m 250 j) ∧ ∀ x, x ≠ 252 → x ≠ 253 → x ≠ 255 → m' x = m1 x) (fun k => (3 - k).toNat) ⟨by decide, fun j a b => by omega, fun _ _ _ _ => rfl⟩ (by decide) ?_) ?_
  · rintro k m' ⟨k1, k3, k5⟩
    unfold eBX11_takeRead_10 ebX11_takeRead_10
    simp only
    refine T_if (fun hc => T_out (by decide) ⟨fun j a b => k3 j a (by omega), k5⟩) (fun hc => ?_)
    refine T_ck ⟨by omega, by omega⟩ (T_ck ⟨by omega, by omega⟩ (T_vm' (fun m2 e2 => T_ck ⟨by omega, by omega⟩ (T_ck ⟨by omega, by omega⟩ (T_vm' (fun m3 e3 => T_ck ⟨by omega, by omega⟩ (T_ck ⟨by omega, by omega⟩ (T_vm' (fun m4 e4 => ?_)))))))))
    rw [w32_id (by omega) (by omega)]
    have s1 : ∀ x, x < 252 → x ≠ 241 → m' x = m x := fun x a b => by rw [k5 x (by omega) (by omega) (by omega), e1, ms_f b]
    refine T_vv (T_go ⟨⟨by simp only; omega, by simp only; omega⟩, fun j a b => ?_, fun x x1 x2 x3 => ?_⟩ (by simp only; omega))
    · simp only at b ⊢
      by_cases q : j = k
      · rw [q]
        refine ⟨?_, ?_, ?_⟩
        · rw [e4, ms_x (by decide), e3, ms_x (by decide), e2, ms_at, s1 246 (by decide) (by decide)]
        · rw [e4, ms_x (by decide), e3, ms_at, e2, ms_x (by decide), s1 248 (by decide) (by decide)]
        · rw [e4, ms_at, e3, ms_x (by decide), e2, ms_x (by decide), s1 250 (by decide) (by decide)]
      · rw [e4, ms_x (by decide), ms_x (by decide), ms_y q, e3, ms_x (by decide), ms_y q, ms_x (by decide), e2, ms_y q, ms_x (by decide), ms_x (by decide)]
        exact k3 j a (by omega)
    · simp only
      rw [e4, ms_f x3, e3, ms_f x2, e2, ms_f x1]; exact k5 x x1 x2 x3
  rintro c2 ⟨z2, m2⟩ ⟨a2, b2⟩
  dsimp only at a2 b2 ⊢
  unfold ebX11_takeRead_57
  refine T_bdl (Q := fun q => (∀ k, 0 ≤ k → k < 15 → q.2.2 254 k = m 249 k) ∧ ∀ x, x ≠ 254 → q.2.2 x = m2 x)
    (iter1 (fun k m' => (0 ≤ k ∧ k ≤ 15) ∧ (∀ j, 0 ≤ j → j < k → m' 254 j = m 249 j) ∧ ∀ x, x ≠ 254 → m' x = m2 x) (fun k => (15 - k).toNat) ⟨by decide, fun j a b => by omega, fun _ _ => rfl⟩ (by decide) ?_) ?_
  · rintro k m' ⟨k1, k3, k5⟩
    unfold eBX11_takeRead_59 ebX11_takeRead_59
    simp only
    refine T_if (fun hc => T_out (by decide) ⟨fun j a b => k3 j a (by omega), k5⟩) (fun hc => ?_)
    rw [w32_id (by omega) (by omega)]
    refine T_ck ⟨by omega, by omega⟩ (T_ck ⟨by omega, by omega⟩ (T_vm (T_vv (T_go ⟨⟨by simp only; omega, by simp only; omega⟩, fun j a b => ?_, fun x x1 => ?_⟩ (by simp only; omega)))))
    · simp only at b ⊢
      by_cases q : j = k
      · rw [q, ms_at, k5 249 (by decide), b2 249 (by decide) (by decide) (by decide), e1, ms_x (by decide)]
      · rw [ms_y q]; exact k3 j a (by omega)
    · simp only
      rw [ms_f x1]; exact k5 x x1
  rintro c3 ⟨z3, m3⟩ ⟨a3, b3⟩
  dsimp only at a3 b3 ⊢
  unfold ebX11_takeRead_83
  refine T_bdl (Q := fun q => (∀ k, 0 ≤ k → k < 180 → q.2.2 256 k = m 251 k) ∧ ∀ x, x ≠ 256 → q.2.2 x = m3 x)
    (iter1 (fun k m' => (0 ≤ k ∧ k ≤ 180) ∧ (∀ j, 0 ≤ j → j < k → m' 256 j = m 251 j) ∧ ∀ x, x ≠ 256 → m' x = m3 x) (fun k => (180 - k).toNat) ⟨by decide, fun j a b => by omega, fun _ _ => rfl⟩ (by decide) ?_) ?_
  · rintro k m' ⟨k1, k3, k5⟩
    unfold eBX11_takeRead_85 ebX11_takeRead_85
    simp only
    refine T_if (fun hc => T_out (by decide) ⟨fun j a b => k3 j a (by omega), k5⟩) (fun hc => ?_)
    rw [w32_id (by omega) (by omega)]
    refine T_ck ⟨by omega, by omega⟩ (T_ck ⟨by omega, by omega⟩ (T_vm (T_vv (T_go ⟨⟨by simp only; omega, by simp only; omega⟩, fun j a b => ?_, fun x x1 => ?_⟩ (by simp only; omega)))))
    · simp only at b ⊢
      by_cases q : j = k
      · rw [q, ms_at, k5 251 (by decide), b3 251 (by decide), b2 251 (by decide) (by decide) (by decide), e1, ms_x (by decide)]
      · rw [ms_y q]; exact k3 j a (by omega)
    · simp only
      rw [ms_f x1]; exact k5 x x1
  rintro c4 ⟨z4, m4⟩ ⟨a4, b4⟩
  dsimp only at a4 b4 ⊢
  unfold ebX11_takeRead_110
  refine T_bdl (Q := fun q => (∀ k, 0 ≤ k → k < 433 → q.2.2 242 k = if k < 33 then 0 else -4) ∧ ∀ x, x ≠ 242 → q.2.2 x = m4 x)
    (iter1 (fun k m' => (0 ≤ k ∧ k ≤ 433) ∧ (∀ j, 0 ≤ j → j < k → m' 242 j = if j < 33 then 0 else -4) ∧ ∀ x, x ≠ 242 → m' x = m4 x) (fun k => (433 - k).toNat) ⟨by decide, fun j a b => by omega, fun _ _ => rfl⟩ (by decide) ?_) ?_
  · rintro k m' ⟨k1, k3, k5⟩
    unfold eBX11_takeRead_112 ebX11_takeRead_112
    simp only
    refine T_if (fun hc => T_out (by decide) ⟨fun j a b => k3 j a (by omega), k5⟩) (fun hc => ?_)
    have go : ∀ v : Int, v = (if k < 33 then 0 else -4) → T (ebX11_takeRead_136 g k 242 k v m') (G (fun q => (fun (k : Int) (m' : Mem) => (0 ≤ k ∧ k ≤ 433) ∧ (∀ j, 0 ≤ j → j < k → m' 242 j = if j < 33 then 0 else -4) ∧ ∀ x, x ≠ 242 → m' x = m4 x) q.1 q.2) (fun q => (fun k => (433 - k).toNat) q.1) ((fun k => (433 - k).toNat) k) (fun q => (∀ k, 0 ≤ k → k < 433 → q.2.2 242 k = if k < 33 then 0 else -4) ∧ ∀ x, x ≠ 242 → q.2.2 x = m4 x)) := by
      intro v ev
      unfold ebX11_takeRead_136
      rw [w32_id (by omega) (by omega)]
      refine T_ck ⟨by omega, by omega⟩ (T_vm (T_vv (T_go ⟨⟨by simp only; omega, by simp only; omega⟩, fun j a b => ?_, fun x x1 => ?_⟩ (by simp only; omega))))
      · simp only at b ⊢
        by_cases q : j = k
        · rw [q, ms_at, ev]
        · rw [ms_y q]; exact k3 j a (by omega)
      · simp only
        rw [ms_f x1]; exact k5 x x1
    exact T_if (fun h => go 0 (by rw [if_pos h])) (fun h => go (-4) (by rw [if_neg h]))
  rintro c5 ⟨z5, m5⟩ ⟨a5, b5⟩
  dsimp only at a5 b5 ⊢
  unfold ebX11_takeRead_143
  refine T_ck (by decide) (T_vm' (fun m6 e6 => ?_))
  have s247 : m6 247 = m 247 := by rw [e6, ms_f (by decide), b5 247 (by decide), b4 247 (by decide), b3 247 (by decide), b2 247 (by decide) (by decide) (by decide), e1, ms_f (by decide)]
  have s8 : m5 241 8 = m 241 8 := by rw [b5 241 (by decide), b4 241 (by decide), b3 241 (by decide), b2 241 (by decide) (by decide) (by decide), e1, ms_y (by decide)]
  refine T_bdl (Q := fun q => (∀ k, 0 ≤ k → k < 9 → q.2.2 242 (1 + k) = m 247 k) ∧ (∀ k, (k < 1 ∨ 10 ≤ k) → q.2.2 242 k = m6 242 k) ∧ ∀ x, x ≠ 242 → q.2.2 x = m6 x)
    (iter1 (fun k m' => (0 ≤ k ∧ k ≤ 9) ∧ (∀ j, 0 ≤ j → j < k → m' 242 (1 + j) = m 247 j) ∧ (∀ j, (j < 1 ∨ 10 ≤ j) → m' 242 j = m6 242 j) ∧ ∀ x, x ≠ 242 → m' x = m6 x) (fun k => (9 - k).toNat) ⟨by decide, fun j a b => by omega, fun _ _ => rfl, fun _ _ => rfl⟩ (by decide) ?_) ?_
  · rintro k m' ⟨k1, k3, k4, k5⟩
    unfold eBX11_takeRead_155 ebX11_takeRead_155
    simp only
    refine T_if (fun hc => T_out (by decide) ⟨fun j a b => k3 j a (by omega), k4, k5⟩) (fun hc => ?_)
    rw [w32_id (x := 1 + k) (by omega) (by omega), w32_id (by omega) (by omega)]
    refine T_ck ⟨by omega, by omega⟩ (T_ck ⟨by omega, by omega⟩ (T_vm (T_vv (T_go ⟨⟨by simp only; omega, by simp only; omega⟩, fun j a b => ?_, fun j a => ?_, fun x x1 => ?_⟩ (by simp only; omega)))))
    · simp only at b ⊢
      by_cases q : j = k
      · rw [q, ms_at, k5 247 (by decide), s247]
      · rw [ms_y (by omega)]; exact k3 j a (by omega)
    · simp only
      rw [ms_y (by omega)]; exact k4 j a
    · simp only
      rw [ms_f x1]; exact k5 x x1
  rintro c7 ⟨z7, m7⟩ ⟨a7, d7, b7⟩
  dsimp only at a7 b7 d7 ⊢
  unfold ebX11_takeRead_181
  refine T_bdl (Q := fun q => (∀ k, 10 ≤ k → k < 13 → q.2.2 242 k = -4) ∧ (∀ k, (k < 10 ∨ 13 ≤ k) → q.2.2 242 k = m7 242 k) ∧ ∀ x, x ≠ 242 → q.2.2 x = m7 x)
    (iter1 (fun k m' => (0 ≤ k ∧ k ≤ 3) ∧ (∀ j, 10 ≤ j → j < 10 + k → m' 242 j = -4) ∧ (∀ j, (j < 10 ∨ 13 ≤ j) → m' 242 j = m7 242 j) ∧ ∀ x, x ≠ 242 → m' x = m7 x) (fun k => (3 - k).toNat) ⟨by decide, fun j a b => by omega, fun _ _ => rfl, fun _ _ => rfl⟩ (by decide) ?_) ?_
  · rintro k m' ⟨k1, k3, k4, k5⟩
    unfold eBX11_takeRead_183 ebX11_takeRead_183
    simp only
    refine T_if (fun hc => T_out (by decide) ⟨fun j a b => k3 j a (by omega), k4, k5⟩) (fun hc => ?_)
    rw [w32_id (x := 10 + k) (by omega) (by omega), w32_id (by omega) (by omega)]
    refine T_ck ⟨by omega, by omega⟩ (T_vm (T_vv (T_go ⟨⟨by simp only; omega, by simp only; omega⟩, fun j a b => ?_, fun j a => ?_, fun x x1 => ?_⟩ (by simp only; omega))))
    · simp only at b ⊢
      by_cases q : j = 10 + k
      · rw [q, ms_at]
      · rw [ms_y q]; exact k3 j a (by omega)
    · simp only
      rw [ms_y (by omega)]; exact k4 j a
    · simp only
      rw [ms_f x1]; exact k5 x x1
  rintro c8 ⟨z8, m8⟩ ⟨a8, d8, b8⟩
  dsimp only at a8 b8 d8 ⊢
  unfold ebX11_takeRead_205
  refine T_vm' (fun m9 e9 => ?_)
  have s241 : m8 241 = m1 241 := by rw [b8 241 (by decide), b7 241 (by decide), e6, ms_f (by decide), b5 241 (by decide), b4 241 (by decide), b3 241 (by decide), b2 241 (by decide) (by decide) (by decide)]
  have sx : ∀ x, x ≠ 241 → x ≠ 242 → m9 x = m4 x := fun x x1 x2 => by rw [e9, ms_f x1, b8 x x2, b7 x x2, e6, ms_f x2, b5 x x2]
  refine T_some ⟨?_, ?_, fun b q1 q2 => ?_, fun x x1 x2 x3 => ?_, fun k k0 k1 => ⟨?_, ?_, ?_⟩, fun k k0 k1 => ?_, fun k k0 k1 => ?_, fun k k0 k1 => ?_⟩
  · dsimp only; rw [e9, ms_y (by decide), s241, e1, ms_at]
  · dsimp only; rw [e9, ms_at]
  · dsimp only; rw [e9, ms_y q1, s241, e1, ms_y q2]
  · dsimp only; rw [sx x x1 x2, b4 x (by omega), b3 x (by omega), b2 x (by omega) (by omega) (by omega), e1, ms_f x1]
  · dsimp only; rw [sx 252 (by decide) (by decide), b4 252 (by decide), b3 252 (by decide)]; exact (a2 k k0 k1).1
  · dsimp only; rw [sx 253 (by decide) (by decide), b4 253 (by decide), b3 253 (by decide)]; exact (a2 k k0 k1).2.1
  · dsimp only; rw [sx 255 (by decide) (by decide), b4 255 (by decide), b3 255 (by decide)]; exact (a2 k k0 k1).2.2
  · dsimp only; rw [sx 254 (by decide) (by decide), b4 254 (by decide)]; exact a3 k k0 k1
  · dsimp only; rw [sx 256 (by decide) (by decide)]; exact a4 k k0 k1
  · dsimp only
    rw [e9, ms_x (by decide)]
    unfold layR
    by_cases h0 : k = 0
    · rw [if_pos h0, d8 k (by omega), d7 k (by omega), e6, h0, ms_at, s8]
    · rw [if_neg h0]
      by_cases h1 : k < 10
      · rw [if_pos h1, d8 k (by omega), show k = 1 + (k - 1) by omega, a7 (k - 1) (by omega) (by omega), show 1 + (k - 1) - 1 = k - 1 by omega]
      · rw [if_neg h1]
        by_cases h2 : k < 13
        · rw [if_pos h2]; exact a8 k (by omega) h2
        · rw [if_neg h2, d8 k (by omega), d7 k (by omega), e6, ms_y h0, a5 k k0 k1]
