/-! ===== what is told: lines, sizes, runs, lengths of runs, cells, all by the reference's rows ===== -/
abbrev Dt : Type := Int × (Int → Int) × (Int → Int) × (Int → Int) × (Int → Int) × (Int → Int)
def dt (m : Mem) : Dt := (m 241 20, m 252, m 253, m 254, m 255, m 256)
def dl (d : Dt) : Int := d.1
def dz (d : Dt) : Int → Int := d.2.1
def dr (d : Dt) : Int → Int := d.2.2.1
def dg (d : Dt) (i r : Int) : Int := d.2.2.2.1 (5 * i + r)
def dn (d : Dt) : Int → Int := d.2.2.2.2.1
def dc (d : Dt) (i k : Int) : Int := d.2.2.2.2.2 (60 * i + k)
def rsum (f : Int → Int) : Nat → Int
  | 0 => 0
  | n + 1 => rsum f n + f n
/-- a line of what is told is sound -/
def WLine (d : Dt) (i : Int) : Prop := (1 ≤ dr d i ∧ dr d i ≤ 5) ∧ (∀ r, 0 ≤ r → r < dr d i → 1 ≤ dg d i r ∧ dg d i r ≤ 12) ∧ rsum (dg d i) (dr d i).toNat = dn d i ∧ (∀ k, 0 ≤ k → k < dn d i → 0 ≤ dc d i k ∧ dc d i k < 400) ∧ ∀ k j, 0 ≤ k → k < j → j < dn d i → dc d i k ≠ dc d i j
def WPl (d : Dt) : Prop := (1 ≤ dl d ∧ dl d ≤ 3) ∧ (1 ≤ dz d 0 ∧ dz d 0 < dz d 1 ∧ dz d 1 < dz d 2 ∧ dz d 2 ≤ 9) ∧ ∀ i, 0 ≤ i → i < dl d → WLine d i
theorem rsum_le {f : Int → Int} {c : Int} : ∀ n : Nat, (∀ r : Int, 0 ≤ r → r < n → f r ≤ c) → rsum f n ≤ c * n
  | 0, _ => by simp [rsum]
  | n + 1, h => by
    have h1 := rsum_le n (fun r a b => h r a (by omega))
    have h2 := h n (by omega) (by omega)
    have h3 : c * ((n + 1 : Nat) : Int) = c * n + c := by rw [Int.natCast_add, Int.mul_add]; omega
    unfold rsum
    omega
theorem rsum_0 {f : Int → Int} : ∀ n : Nat, (∀ r : Int, 0 ≤ r → r < n → 0 ≤ f r) → 0 ≤ rsum f n
  | 0, _ => by simp [rsum]
  | n + 1, h => by
    have h1 := rsum_0 n (fun r a b => h r a (by omega))
    have h2 := h n (by omega) (by omega)
    unfold rsum
    omega
theorem rsum_mo {f : Int → Int} : ∀ n k : Nat, n ≤ k → (∀ r : Int, 0 ≤ r → r < k → 0 ≤ f r) → rsum f n ≤ rsum f k
  | n, 0, h, _ => by rw [show n = 0 by omega]; exact Int.le_refl _
  | n, k + 1, h, hf => by
    by_cases q : n = k + 1
    · rw [q]; exact Int.le_refl _
    · have h1 := rsum_mo n k (by omega) (fun r a b => hf r a (by omega))
      have h2 := hf k (by omega) (by omega)
      show rsum f n ≤ rsum f k + f k
      omega
theorem WLine.mx {d : Dt} {i : Int} (h : WLine d i) : 0 ≤ dn d i ∧ dn d i ≤ 60 := by
  obtain ⟨h1, h2, h3, _, _⟩ := h
  have a := rsum_le (f := dg d i) (c := 12) (dr d i).toNat (fun r a b => (h2 r a (by omega)).2)
  have b := rsum_0 (f := dg d i) (dr d i).toNat (fun r a b => by have := (h2 r a (by omega)).1; omega)
  rw [h3] at a b
  omega
/-- a row is sound for what is told -/
def WRow (d : Dt) (R : Int → Int) : Prop := (0 ≤ R 0 ∧ R 0 ≤ 2) ∧ (∀ k, 1 ≤ k → k < 10 → 0 ≤ R k ∧ R k ≤ 6) ∧ (∀ i, 0 ≤ i → i < 3 → R (10 + i) = -4 ∨ 0 ≤ R (10 + i) ∧ R (10 + i) ≤ 2)
  ∧ (∀ i, 0 ≤ i → i < 3 → R (10 + i) = -4 → R (28 + i) = 0 ∧ ∀ s, 0 ≤ s → s < 3 → R (19 + 3 * i + s) = 0) ∧ (∀ i s, 0 ≤ i → i < 3 → 0 ≤ s → s < 3 → 0 ≤ R (19 + 3 * i + s) ∧ R (19 + 3 * i + s) ≤ 6)
  ∧ (∀ c, 0 ≤ c → c < 400 → R (33 + c) = -4 ∨ ((0 ≤ R (33 + c) ∧ R (33 + c) < dl d) ∧ R (10 + R (33 + c)) ≠ -4 ∧ ∃ k, 0 ≤ k ∧ k < dn d (R (33 + c)) ∧ dc d (R (33 + c)) k = c)) ∧ w32 (R 32) = R 32
/-- the program's plan at P tells the same -/
def IPl (m : Mem) (P : Int) (d : Dt) : Prop := (∀ k, 0 ≤ k → k < 3 → m (P + 1) k = dz d k) ∧ m P 5 = dl d
  ∧ (∀ i, 0 ≤ i → i < dl d → m (P + 5 + 3 * i) 2 = dn d i ∧ m (P + 5 + 3 * i) 3 = dr d i ∧ (∀ k, 0 ≤ k → k < dn d i → m (P + 5 + 3 * i + 1) k = dc d i k) ∧ ∀ r, 0 ≤ r → r < dr d i → m (P + 5 + 3 * i + 2) r = rsum (dg d i) (r.toNat + 1) - 1)
  ∧ ∀ c, 0 ≤ c → c < 400 → ∃ o : Nat, o < 8 ∧ m (P + 4) c = o ∧ ∀ i : Nat, i < 3 → (o.testBit i = true ↔ ((i : Int) < dl d ∧ ∃ k, 0 ≤ k ∧ k < dn d i ∧ dc d i k = c))
def ITx (m : Mem) : Prop := (0 ≤ m 241 5 ∧ m 241 5 ≤ 200) ∧ m 2 3 = m 241 5 ∧ ∀ k, 0 ≤ k → k < m 241 5 → m 3 k = m 245 k ∧ 32 ≤ m 245 k ∧ m 245 k ≤ 126
def ISw (m : Mem) : Prop := m 1 6 = 177 ∧ m 1 7 = 191 ∨ m 1 6 = 191 ∧ m 1 7 = 177
def pastR (m : Mem) (i : Int) : Int → Int := fun k => m 244 (433 * i + k)
def IPast (m : Mem) : Prop := PastOk m ∧ m 241 3 = m 93 1 ∧ ∀ i, 0 ≤ i → i < m 93 1 → RowEq (rowC m (m 94 i)) (pastR m i) ∧ WRow (dt m) (pastR m i)
/-- all but what the program has found already -/
def Core (m : Mem) : Prop := ITx m ∧ WPl (dt m) ∧ ISw m ∧ IPl m (m 1 6) (dt m) ∧ (RowEq (rowC m 85) (m 242) ∧ WRow (dt m) (m 242)) ∧ IPast m
theorem WRow.c {d : Dt} {R S : Int → Int} (hl : dl d ≤ 3) (h : WRow d R) (e : RowEq S R) : WRow d S := by
  obtain ⟨h1, h2, h3, h4, h5, h6, h7⟩ := h
  refine ⟨by rw [e 0 (by decide) (by decide)]; exact h1, fun k a b => by rw [e k (by omega) (by omega)]; exact h2 k a b, fun i a b => by rw [e (10 + i) (by omega) (by omega)]; exact h3 i a b, fun i a b => ?_, fun i s a b c f => by rw [e (19 + 3 * i + s) (by omega) (by omega)]; exact h5 i s a b c f, fun c a b => ?_, by rw [e 32 (by decide) (by decide)]; exact h7⟩
  · rw [e (10 + i) (by omega) (by omega), e (28 + i) (by omega) (by omega)]
    intro q
    exact ⟨(h4 i a b q).1, fun s c f => by rw [e (19 + 3 * i + s) (by omega) (by omega)]; exact (h4 i a b q).2 s c f⟩
  · rw [e (33 + c) (by omega) (by omega)]
    rcases h6 c a b with q | ⟨q1, q2, q3⟩
    · exact Or.inl q
    · refine Or.inr ⟨q1, ?_, q3⟩
      rw [e (10 + R (33 + c)) (by omega) (by omega)]
      exact q2
theorem IPl.c {m m' : Mem} {P : Int} {d : Dt} (hl : dl d ≤ 3) (h : IPl m P d) (e : ∀ a, P ≤ a → a ≤ P + 13 → m' a = m a) : IPl m' P d := by
  obtain ⟨h1, h2, h3, h4⟩ := h
  refine ⟨fun k a b => by rw [e _ (by omega) (by omega)]; exact h1 k a b, by rw [e _ (by omega) (by omega)]; exact h2, fun i a b => ?_, fun c a b => by rw [e _ (by omega) (by omega)]; exact h4 c a b⟩
  rw [e _ (by omega) (by omega), e (P + 5 + 3 * i + 1) (by omega) (by omega), e (P + 5 + 3 * i + 2) (by omega) (by omega)]
  exact h3 i a b
theorem PastOk.c {m m' : Mem} (h : PastOk m) (e : m' 93 1 = m 93 1) (f : m' 94 = m 94) : PastOk m' := by
  unfold PastOk
  rw [e, f]
  exact h
theorem IPast.c {m m' : Mem} (h : IPast m) (hd : dt m' = dt m) (hc : ∀ a, 93 ≤ a → a ≤ 142 → m' a = m a) (h3 : m' 241 3 = m 241 3) (h4 : m' 244 = m 244) : IPast m' := by
  obtain ⟨h1, h2, h5⟩ := h
  have e93 := hc 93 (by decide) (by decide)
  have e94 := hc 94 (by decide) (by decide)
  refine ⟨h1.c (by rw [e93]) e94, by rw [h3, e93, h2], fun i a b => ?_⟩
  rw [e93] at b
  have hr := h1.rg a (by have := h1.1; omega)
  have hp : pastR m' i = pastR m i := by unfold pastR; rw [h4]
  rw [e94, hp, hd, rowC_c (fun x hx hx7 => hc x (by omega) (by omega))]
  exact h5 i a b
theorem ITx.c {m m' : Mem} (h : ITx m) (h5 : m' 241 5 = m 241 5) (h2 : m' 2 3 = m 2 3) (h3 : m' 3 = m 3) (h4 : m' 245 = m 245) : ITx m' := by
  unfold ITx
  rw [h5, h2, h3, h4]
  exact h
theorem dt_c {m m' : Mem} (h0 : m' 241 20 = m 241 20) (h : ∀ a, 252 ≤ a → a ≤ 256 → m' a = m a) : dt m' = dt m := by
  unfold dt
  rw [h0, h 252 (by decide) (by decide), h 253 (by decide) (by decide), h 254 (by decide) (by decide), h 255 (by decide) (by decide), h 256 (by decide) (by decide)]
/-- a pair of calls: both answer alike -/
def Two (a : Option (Int × Mem)) (b : Mem → Option (Int × Mem)) (P : Mem → Prop) : Prop := T a (fun q => T (b q.2) (fun p => q.1 = p.1 ∧ P p.2))
/-- what the program has found stays, or is forgotten -/
def KeepC (m m' : Mem) : Prop := (∀ a, (a = 5 ∨ a = 11 ∨ a = 147 ∨ 13 ≤ a ∧ a ≤ 84) → m' a = m a)
  ∧ ((∀ a, (143 ≤ a ∧ a ≤ 175 ∨ 205 ≤ a ∧ a ≤ 240) → m' a = m a) ∧ (∀ k, 0 ≤ k → k < 433 → m' 242 k = m 242 k) ∨ (∀ w, 0 ≤ w → w < 9 → m' (205 + 4 * w) 8 = 0) ∧ m' 143 8 = 0)
def Done (m m' : Mem) : Prop := Core m' ∧ dt m' = dt m ∧ KeepC m m'
/-- nothing that counts has changed but the text -/
theorem Done.tx {m m' : Mem} (h : Core m) (ht : ITx m') (h1 : m' 1 = m 1) (hf : ∀ a, a ≠ 2 → a ≠ 3 → a ≠ 4 → a ≠ 241 → (a < 245 ∨ 251 < a) → (a < 257 ∨ 267 < a) → m' a = m a) (h3 : m' 241 3 = m 241 3) (h20 : m' 241 20 = m 241 20) : Done m m' := by
  obtain ⟨_, hw, hs, hp, ⟨hr, hr2⟩, hq⟩ := h
  have hd : dt m' = dt m := dt_c h20 (fun a b c => hf a (by omega) (by omega) (by omega) (by omega) (by omega) (by omega))
  have hP : 177 ≤ m 1 6 ∧ m 1 6 ≤ 191 := by rcases hs with hs | hs <;> omega
  refine ⟨⟨ht, by rw [hd]; exact hw, by unfold ISw; rw [h1]; exact hs, ?_, ⟨?_, ?_⟩, hq.c hd (fun a b c => hf a (by omega) (by omega) (by omega) (by omega) (by omega) (by omega)) h3 (hf 244 (by decide) (by decide) (by decide) (by decide) (by decide) (by decide))⟩, hd, fun a ha => hf a (by omega) (by omega) (by omega) (by omega) (by omega) (by omega), Or.inl ⟨fun a ha => hf a (by omega) (by omega) (by omega) (by omega) (by omega) (by omega), fun k _ _ => by rw [hf 242 (by decide) (by decide) (by decide) (by decide) (by decide) (by decide)]⟩⟩
  · rw [h1, hd]
    exact hp.c hw.1.2 (fun a b c => hf a (by omega) (by omega) (by omega) (by omega) (by omega) (by omega))
  · rw [hf 242 (by decide) (by decide) (by decide) (by decide) (by decide) (by decide), rowC_c (fun x a b => hf x (by omega) (by omega) (by omega) (by omega) (by omega) (by omega))]
    exact hr
  · rw [hd, hf 242 (by decide) (by decide) (by decide) (by decide) (by decide) (by decide)]
    exact hr2
theorem Done.rf {m : Mem} (h : Core m) : Done m m := ⟨h, rfl, fun _ _ => rfl, Or.inl ⟨fun _ _ => rfl, fun _ _ _ => rfl⟩⟩
/-! ===== the short calls ===== -/
theorem c16_all : ∀ n : Fin 127, c16 ((n.val : Nat) : Int) = ((n.val : Nat) : Int) := by decide +kernel
theorem c16_id {x : Int} (h1 : 0 ≤ x) (h2 : x < 127) : c16 x = x := by
  obtain ⟨n, rfl⟩ := Int.eq_ofNat_of_zero_le h1
  exact c16_all ⟨n, by omega⟩
theorem tX11_in {g : Shp} {m : Mem} {v a b : Int} : T (eX11_in g v a b m) (fun q => q = ((if a ≤ v ∧ v ≤ b then 1 else 0), m)) := by
  unfold eX11_in ebX11_in_0
  refine T_if (fun h => ?_) (fun h => T_if (fun h2 => ?_) (fun h2 => ?_))
  · rw [if_neg (by omega)]; exact ⟨(0, m), rfl, rfl⟩
  · rw [if_neg (by omega)]; exact ⟨(0, m), rfl, rfl⟩
  · rw [if_pos (by omega)]; exact ⟨(1, m), rfl, rfl⟩
theorem tX11_isColour {g : Shp} {m : Mem} {v : Int} : T (eX11_isColour g v m) (fun q => q = ((if 0 ≤ v ∧ v ≤ 2 then 1 else 0), m)) := by
  unfold eX11_isColour ebX11_isColour_0
  refine T_bd2 tX11_in ?_
  intro r m' h
  cases h
  exact T_some rfl
theorem tX11_isLine {g : Shp} {m : Mem} {v : Int} (h : 1 ≤ dl (dt m) ∧ dl (dt m) ≤ 3) : T (eX11_isLine g v m) (fun q => q = ((if 0 ≤ v ∧ v < dl (dt m) then 1 else 0), m)) := by
  unfold dl dt at h ⊢
  simp only at h ⊢
  unfold eX11_isLine ebX11_isLine_0
  refine T_bd2 tX11_in ?_
  intro r m' q
  cases q
  rw [w32_id (by omega) (by omega)]
  refine T_some ?_
  by_cases q : 0 ≤ v ∧ v < m 241 20
  · rw [if_pos q, if_pos (by omega)]
  · rw [if_neg q, if_neg (by omega)]
theorem tX11_isCovered {g : Shp} {m : Mem} {v : Int} (h : 0 ≤ v ∧ v < 3) : T (eX11_isCovered g v m) (fun q => q = ((if m 242 (10 + v) = -4 then 0 else 1), m)) := by
  unfold eX11_isCovered ebX11_isCovered_0
  simp (disch := omega) only [w32_id]
  refine T_ck ⟨by omega, by omega⟩ (T_if (fun h => ?_) (fun h => ?_))
  · rw [if_pos h]; exact ⟨(0, m), rfl, rfl⟩
  · rw [if_neg h]; exact ⟨(1, m), rfl, rfl⟩
theorem tX10_isColour {g : Shp} {m : Mem} {v : Int} : T (eX10_isColour g v m) (fun q => q = ((if 0 ≤ v ∧ v ≤ 2 then 1 else 0), m)) := by
  unfold eX10_isColour ebX10_isColour_0
  refine T_if (fun h => ?_) (fun h => T_if (fun h2 => ?_) (fun h2 => ?_))
  · rw [if_neg (by omega)]; exact ⟨(0, m), rfl, rfl⟩
  · rw [if_neg (by omega)]; exact ⟨(0, m), rfl, rfl⟩
  · rw [if_pos (by omega)]; exact ⟨(1, m), rfl, rfl⟩
theorem tX10_isLine {g : Shp} {m : Mem} {v : Int} (h : m (m 1 6) 5 = dl (dt m)) : T (eX10_isLine g v m) (fun q => q = ((if 0 ≤ v ∧ v < dl (dt m) then 1 else 0), m)) := by
  unfold eX10_isLine ebX10_isLine_0
  rw [h]
  refine T_if (fun h => ?_) (fun h => T_if (fun h2 => ?_) (fun h2 => ?_))
  · rw [if_neg (by omega)]; exact ⟨(0, m), rfl, rfl⟩
  · rw [if_neg (by omega)]; exact ⟨(0, m), rfl, rfl⟩
  · rw [if_pos (by omega)]; exact ⟨(1, m), rfl, rfl⟩
theorem tX1_isCovered {g : Shp} {m : Mem} {f v : Int} (h : 0 ≤ v ∧ v < 3) : T (eX1_isCovered g f v m) (fun q => q = ((if rowC m f (10 + v) = -4 then 0 else 1), m)) := by
  have e : rowC m f (10 + v) = m (f + 3) v := by
    unfold rowC
    rw [if_neg (by omega), if_neg (by omega), if_pos (by omega)]
    congr 1
    omega
  rw [e]
  unfold eX1_isCovered ebX1_isCovered_0
  refine T_ck ⟨by omega, by omega⟩ (T_if (fun h => ?_) (fun h => ?_))
  · rw [if_pos h]; exact ⟨(0, m), rfl, rfl⟩
  · rw [if_neg h]; exact ⟨(1, m), rfl, rfl⟩
theorem op_write {g : Shp} {m : Mem} {x : Int} (h : Core m) : Two (eX10_write g x m) (eX11_write g x) (Done m) := by
  obtain ⟨⟨t1, t2, t3⟩, _⟩ := id h
  have h4 := h
  unfold Two eX10_write ebX10_write_0
  have bad : ¬ (32 ≤ x ∧ x ≤ 126) → T (ebX10_write_12 g m) (fun q => T (eX11_write g x q.2) (fun p => q.1 = p.1 ∧ Done m p.2)) := by
    intro hx
    refine T_some ?_
    unfold eX11_write ebX11_write_0
    refine T_bd2 tX11_in ?_
    intro r m' q
    cases q
    rw [if_neg hx]
    exact T_it rfl (T_some ⟨rfl, Done.rf h⟩)
  refine T_if (fun hx => bad (by omega)) (fun hx => T_if (fun hx2 => T_if (fun hl => ?_) (fun hl => ?_)) (fun hx2 => bad (by omega)))
  · rw [c16_id (by omega) (by omega)]
    have h1 : T (eX8_append g x m) (fun q => q.2 = ms (ms m 3 (m 2 3) x) 2 3 (m 2 3 + 1)) := by
      unfold eX8_append ebX8_append_0
      refine T_ie (by omega) (T_ck ⟨by omega, by omega⟩ (T_ck ⟨by omega, by omega⟩ (T_vm ?_)))
      rw [ms_x (show (2 : Int) ≠ 3 by decide), w32_id (by omega) (by omega)]
      exact T_vm (T_some rfl)
    refine T_bd2 h1 ?_
    intro r m1 e
    simp only at e
    refine T_some ?_
    unfold eX11_write ebX11_write_0
    refine T_bd2 tX11_in ?_
    intro r m' q
    cases q
    have e5 : m1 241 = m 241 := by rw [e, ms_f (by decide), ms_f (by decide)]
    simp only [e5, if_pos (show 32 ≤ x ∧ x ≤ 126 by omega)]
    refine T_ie (by decide) (T_ie (by omega) (T_ck ⟨by omega, by omega⟩ (T_vm ?_)))
    rw [ms_x (show (241 : Int) ≠ 245 by decide), e5, w32_id (by omega) (by omega)]
    refine T_vm (T_some ⟨?_, ?_⟩)
    · simp only [ms_at]
      rw [e, ms_at, t2]
    · simp only
      refine Done.tx h4 ⟨?_, ?_, fun k a b => ?_⟩ ?_ (fun a a1 a2 a3 a4 a5 a6 => ?_) ?_ ?_
      · rw [ms_at]; omega
      · rw [ms_at, ms_x (by decide), ms_x (by decide), e, ms_at, t2]
      · rw [ms_at] at b
        rw [ms_x (by decide), ms_x (by decide), ms_x (show (245 : Int) ≠ 241 by decide), e, ms_x (show (3 : Int) ≠ 2 by decide)]
        by_cases q : k = m 241 5
        · rw [t2, q, ms_at, ms_at]; omega
        · rw [t2, ms_y q, ms_y q, ms_x (by decide), ms_x (by decide)]; exact t3 k a (by omega)
      · rw [ms_f (by decide), ms_f (by decide), e, ms_f (by decide), ms_f (by decide)]
      · rw [ms_f (by omega), ms_f (by omega), e, ms_f (by omega), ms_f (by omega)]
      · rw [ms_y (by decide), ms_x (by decide), e5]
      · rw [ms_y (by decide), ms_x (by decide), e5]
  · refine T_some ?_
    unfold eX11_write ebX11_write_0
    refine T_bd2 tX11_in ?_
    intro r m' q
    cases q
    simp only [if_pos (show 32 ≤ x ∧ x ≤ 126 by omega)]
    exact T_ie (by decide) (T_it (by omega) (T_some ⟨rfl, Done.rf h4⟩))
theorem op_wipe {g : Shp} {m : Mem} (h : Core m) : Two (eX10_wipe g m) (eX11_wipe g) (Done m) := by
  obtain ⟨⟨t1, t2, t3⟩, _⟩ := id h
  unfold Two eX10_wipe ebX10_wipe_0
  refine T_vv (T_vm (T_some ?_))
  unfold eX11_wipe ebX11_wipe_0
  refine T_vv (T_vm (T_some ⟨?_, ?_⟩))
  · simp only
    rw [ms_x (by decide), t2]
  · simp only
    refine Done.tx h ⟨?_, ?_, fun k a b => ?_⟩ ?_ (fun a a1 a2 a3 a4 a5 a6 => ?_) ?_ ?_
    · rw [ms_at]; omega
    · rw [ms_at, ms_x (by decide), ms_at]
    · rw [ms_at] at b; omega
    · rw [ms_f (by decide), ms_f (by decide)]
    · rw [ms_f (by omega), ms_f (by omega)]
    · rw [ms_y (by decide), ms_x (by decide)]
    · rw [ms_y (by decide), ms_x (by decide)]
