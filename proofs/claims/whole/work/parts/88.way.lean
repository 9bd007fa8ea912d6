/-! ===== a row behind a cover, and orders: pure ===== -/
noncomputable def covR (d : Dt) (R : Int → Int) (i c : Int) : Int → Int := fun k =>
  if k = 32 then w32 (R 32 + nsum (woff (dz d) (sR d R i c)) (cR d R i c % 32).toNat)
  else if k = 31 then w32 (R 31 + cR d R i c / 32)
  else if 1 + 3 * c ≤ k ∧ k < 4 + 3 * c then R k - nsum (wused (sR d R i c) (k - 1 - 3 * c)) (cR d R i c % 32).toNat
  else if k = 10 + i then c
  else if k = 13 + i then cR d R i c % 32
  else if k = 16 + i then cR d R i c / 32
  else if 19 + 3 * i ≤ k ∧ k < 22 + 3 * i then nsum (wsnd (dz d) (sR d R i c) (k - 19 - 3 * i)) (cR d R i c % 32).toNat
  else if k = 28 + i then nsum (wspo (dz d) (sR d R i c)) (cR d R i c % 32).toNat
  else hand d i (-4) i (dn d i).toNat R k
/-- all cuts of turns, one behind the other -/
noncomputable def vT (d : Dt) (cs : Int → Int) : List Int → (Int → Int) → Int
  | [], _ => 0
  | t :: ts, R => if cR d R t (cs t) = 1000000 then 1000000 else pl (vT d cs ts (covR d R t (cs t))) (cR d R t (cs t) / 32)
def trn (code k : Int) : Int := if k = 0 then code / 9 else if k = 1 then code / 3 % 3 else code % 3
/-- how many lines are not covered -/
def opnR (d : Dt) (R : Int → Int) : Int := rsum (fun i => if i < dl d ∧ R (10 + i) = -4 then 1 else 0) 3
def okT (d : Dt) (R : Int → Int) (n code : Int) : Prop := (0 ≤ code ∧ code < 27) ∧ ∀ k, 0 ≤ k → k < 3 → (k < n → (0 ≤ trn code k ∧ trn code k < dl d) ∧ R (10 + trn code k) = -4 ∧ ∀ j, 0 ≤ j → j < k → trn code j ≠ trn code k) ∧ (n ≤ k → trn code k = 0)
def lsT (n code : Int) : List Int := [trn code 0, trn code 1, trn code 2].take n.toNat
noncomputable def vO (d : Dt) (R cs : Int → Int) (code : Int) : Int := vT d cs (lsT (opnR d R) code) R
/-- the first order of those that cost fewest -/
def BstO (d : Dt) (R cs : Int → Int) (code : Int) : Prop := okT d R (opnR d R) code ∧ vO d R cs code < 1000000 ∧ ∀ c', okT d R (opnR d R) c' → vO d R cs code < vO d R cs c' ∨ vO d R cs code = vO d R cs c' ∧ code ≤ c'
def OrdR (m : Mem) (d : Dt) (R cs : Int → Int) : Prop := (m 143 7 = 0 ∧ ∀ c', okT d R (opnR d R) c' → ¬ vO d R cs c' < 1000000) ∨ (m 143 7 = 1 ∧ m 143 5 = opnR d R ∧ ∃ code, BstO d R cs code ∧ m 143 6 = vO d R cs code ∧ ∀ k, 0 ≤ k → k < opnR d R → m 146 k = trn code k)
/-! ===== all that holds between two calls ===== -/
def wyA (i c : Int) : Int := 205 + 4 * (3 * i + c)
def WayC (m : Mem) : Prop := ∀ i c, 0 ≤ i → i < 3 → 0 ≤ c → c ≤ 2 → m (wyA i c) 8 = 0 ∨ i < dl (dt m) ∧ WayR m (wyA i c) (dt m) (m 242) i c
def OrdC (m : Mem) : Prop := m 143 8 = 0 ∨ (∀ i, 0 ≤ i → i < 3 → 0 ≤ m 144 i ∧ m 144 i ≤ 2) ∧ OrdR m (dt m) (m 242) (m 144)
def OrdF (m : Mem) : Prop := ∀ k, 0 ≤ k → k < 3 → m 147 k = 152 + 8 * k
def Inv (g : Shp) (m : Mem) : Prop := Core m ∧ RmOk g m ∧ LyOk m ∧ WayC m ∧ OrdC m ∧ OrdF m
theorem cR_c {d : Dt} {R S : Int → Int} {i c : Int} (hw : WLine d i) (h : RowEq R S) (hc : 0 ≤ c ∧ c ≤ 2) : cR d R i c = cR d S i c ∧ sR d R i c = sR d S i c := by
  have e1 : pcOf d R i = pcOf d S i := pcOf_c hw h
  have e2 : enR d R i = enR d S i := by unfold enR; rw [e1, h 0 (by decide) (by decide)]
  have e3 : xR d R i = xR d S i := by unfold xR; rw [e1]
  have e4 : bR R c = bR S c := by unfold bR; rw [h _ (by omega) (by omega), h _ (by omega) (by omega), h _ (by omega) (by omega)]
  unfold cR sR
  rw [e2, e3, e4]
  exact ⟨rfl, rfl⟩
theorem WayR_c {m m' : Mem} {w : Int} {d : Dt} {R S : Int → Int} {i c : Int} (hw : WLine d i) (h : RowEq R S) (hc : 0 ≤ c ∧ c ≤ 2) (hm : ∀ a, w ≤ a → a ≤ w + 3 → m' a = m a) (hW : WayR m w d R i c) : WayR m' w d S i c := by
  obtain ⟨e1, e2⟩ := cR_c hw h hc
  unfold WayR at *
  rw [hm w (by omega) (by omega), ← e1, ← e2]
  rcases hW with q | ⟨q1, q2, q3, q4, q5⟩
  · exact Or.inl q
  · exact Or.inr ⟨q1, q2, q3, q4.c hm, q5⟩
theorem covR_c {d : Dt} {R S : Int → Int} {i c : Int} (hw : WLine d i) (h : RowEq R S) (hi : 0 ≤ i ∧ i < 3) (hc : 0 ≤ c ∧ c ≤ 2) : RowEq (covR d R i c) (covR d S i c) := by
  obtain ⟨e1, e2⟩ := cR_c hw h hc
  intro k k0 k1
  unfold covR
  rw [← e1, ← e2, h 32 (by decide) (by decide), h 31 (by decide) (by decide), h k k0 k1]
  have : hand d i (-4) i (dn d i).toNat R k = hand d i (-4) i (dn d i).toNat S k := by unfold hand; rw [h k k0 k1]
  rw [this]
theorem vT_c {d : Dt} {cs : Int → Int} (hd : WPl d) (hcs : ∀ i, 0 ≤ i → i < 3 → 0 ≤ cs i ∧ cs i ≤ 2) : ∀ (ts : List Int) {R S : Int → Int}, RowEq R S → (∀ t, t ∈ ts → 0 ≤ t ∧ t < dl d) → vT d cs ts R = vT d cs ts S
  | [], _, _, _, _ => rfl
  | t :: ts, R, S, h, ht => by
    have h1 := ht t (List.mem_cons_self ..)
    have hl := hd.1.2
    have hc := hcs t h1.1 (by omega)
    have e := cR_c (hd.2.2 t h1.1 h1.2) h hc
    unfold vT
    rw [e.1, vT_c hd hcs ts (covR_c (hd.2.2 t h1.1 h1.2) h ⟨h1.1, by omega⟩ hc) (fun t' ht' => ht t' (List.mem_cons_of_mem _ ht'))]
theorem opnR_c {d : Dt} {R S : Int → Int} (h : RowEq R S) : opnR d R = opnR d S := by
  unfold opnR
  refine rsum_c 3 (fun r a b => ?_)
  rw [h (10 + r) (by omega) (by omega)]
theorem okT_c {d : Dt} {R S : Int → Int} {n code : Int} (hd : dl d ≤ 3) (h : RowEq R S) (ho : okT d R n code) : okT d S n code := by
  refine ⟨ho.1, fun k k0 k1 => ⟨fun hk => ?_, (ho.2 k k0 k1).2⟩⟩
  obtain ⟨u1, u2, u3⟩ := (ho.2 k k0 k1).1 hk
  exact ⟨u1, by rw [← h _ (by omega) (by omega)]; exact u2, u3⟩
theorem okT_ls {d : Dt} {R : Int → Int} {n code : Int} (h : okT d R n code) : ∀ t, t ∈ lsT n code → 0 ≤ t ∧ t < dl d := by
  intro t ht
  unfold lsT at ht
  by_cases h0 : n ≤ 0
  · rw [show n.toNat = 0 by omega] at ht
    exact absurd ht (by simp)
  · by_cases h1 : n = 1
    · rw [h1] at ht
      have : t = trn code 0 := by simpa using ht
      rw [this]; exact ((h.2 0 (by decide) (by decide)).1 (by omega)).1
    · by_cases h2 : n = 2
      · rw [h2] at ht
        have : t = trn code 0 ∨ t = trn code 1 := by simpa using ht
        rcases this with q | q <;> rw [q]
        · exact ((h.2 0 (by decide) (by decide)).1 (by omega)).1
        · exact ((h.2 1 (by decide) (by decide)).1 (by omega)).1
      · obtain ⟨j, hj⟩ : ∃ j : Nat, n.toNat = j + 3 := ⟨n.toNat - 3, by omega⟩
        rw [hj] at ht
        have : t = trn code 0 ∨ t = trn code 1 ∨ t = trn code 2 := by simpa using ht
        rcases this with q | q | q <;> rw [q]
        · exact ((h.2 0 (by decide) (by decide)).1 (by omega)).1
        · exact ((h.2 1 (by decide) (by decide)).1 (by omega)).1
        · exact ((h.2 2 (by decide) (by decide)).1 (by omega)).1
theorem OrdR_c {m m' : Mem} {d : Dt} {R S cs : Int → Int} (hd : WPl d) (hcs : ∀ i, 0 ≤ i → i < 3 → 0 ≤ cs i ∧ cs i ≤ 2) (h : RowEq R S) (h3 : m' 143 = m 143) (h6 : m' 146 = m 146) (hO : OrdR m d R cs) : OrdR m' d S cs := by
  have hl := hd.1.2
  have ev : ∀ c', okT d R (opnR d R) c' → vO d R cs c' = vO d S cs c' := fun c' ho => by
    unfold vO
    rw [← opnR_c h]
    exact vT_c hd hcs _ h (okT_ls ho)
  have eo : ∀ c', okT d S (opnR d S) c' → okT d R (opnR d R) c' := fun c' ho => by
    rw [← opnR_c h] at ho
    exact okT_c hl h.sy ho
  unfold OrdR at *
  rw [h3, h6, ← opnR_c h]
  rcases hO with ⟨q1, q2⟩ | ⟨q1, q2, code, ⟨b1, b2, b3⟩, q4, q5⟩
  · refine Or.inl ⟨q1, fun c' ho => ?_⟩
    rw [opnR_c h] at ho
    rw [← ev c' (eo c' ho)]
    exact q2 c' (eo c' ho)
  · refine Or.inr ⟨q1, q2, code, ⟨?_, ?_, fun c' ho => ?_⟩, ?_, q5⟩
    · rw [← opnR_c h]; exact okT_c hl h b1
    · rw [← ev code b1]; exact b2
    · rw [← ev code b1, ← ev c' (eo c' ho)]
      exact b3 c' (eo c' ho)
    · rw [← ev code b1]; exact q4
