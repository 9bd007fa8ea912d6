/-! ===== a row behind a cover, and orders: pure ===== -/
noncomputable def covR (d : Dt) (R : Int → Int) (i c : Int) : Int → Int := fun k =>
  if k = 32 then w32 (R 32 + nsum (woff (dz d) (sR d R i c)) (cR d R i c % 32).toNat)
  else if k = 31 then w32 (R 31 + cR d R i c / 32)
  else if 1 + 3 * c ≤ k ∧ k < 4 + 3 * c then R k - nsum (wused (sR d R i c) (k - 1 - 3 * c)) (cR d R i c % 32).toNat
  else if k = 10 + i then c
  else if k = 13 + i then cR d R i c % 32
  else if k = 16 + i then cR d R i c / 32
  else if 19 + 3 * i ≤ k ∧ k < 22 + 3 * i then nsum (wsnd (dz d) (sR d R i c) (k - 19 - 3 * i)) (cR d R i c % 32).toNat
  else if k = 28 + i then nsum (wspo (dz d) (sR d R i c)) (cR d R i c % 32).toNat
  else hand d i (-4) i (dn d i).toNat R k
/-- all cuts of turns, one behind the other -/
noncomputable def vT (d : Dt) (cs : Int → Int) : List Int → (Int → Int) → Int
  | [], _ => 0
  | t :: ts, R => if cR d R t (cs t) = 1000000 then 1000000 else pl (vT d cs ts (covR d R t (cs t))) (cR d R t (cs t) / 32)
/-! ===== orders: which lines are not covered, all orders of them, the first that costs fewest ===== -/
abbrev U3 : Type := Bool × Bool × Bool
def uo (u : U3) (j : Int) : Bool := if j = 0 then u.1 else if j = 1 then u.2.1 else if j = 2 then u.2.2 else false
def ud (u : U3) (j : Int) : U3 := (u.1 && decide (j ≠ 0), u.2.1 && decide (j ≠ 1), u.2.2 && decide (j ≠ 2))
def pmJ (f : U3 → List (List Int)) (u : U3) (j : Int) : List (List Int) := if uo u j = true then (f (ud u j)).map (fun ts => j :: ts) else []
def pm : Nat → U3 → List (List Int)
  | 0, _ => [[]]
  | k + 1, u => if (u.1 || u.2.1 || u.2.2) = false then [[]] else pmJ (pm k) u 0 ++ (pmJ (pm k) u 1 ++ pmJ (pm k) u 2)
abbrev Ac : Type := Option (Int × List Int)
def fs1 (v : Int) (ts : List Int) (acc : Ac) : Ac := match acc with
  | none => if v < 1000000 then some (v, ts) else none
  | some q => if v < q.1 then some (v, ts) else some q
def fb (val : List Int → Int) : List (List Int) → Ac → Ac
  | [], acc => acc
  | ts :: L, acc => fb val L (fs1 (val ts) ts acc)
theorem fb_app (val : List Int → Int) : ∀ (L M : List (List Int)) (acc : Ac), fb val (L ++ M) acc = fb val M (fb val L acc)
  | [], _, _ => rfl
  | ts :: L, M, acc => fb_app val L M (fs1 (val ts) ts acc)
theorem fb_c {val val' : List Int → Int} : ∀ (L : List (List Int)) (acc : Ac), (∀ ts, ts ∈ L → val ts = val' ts) → fb val L acc = fb val' L acc
  | [], _, _ => rfl
  | ts :: L, acc, h => by
    show fb val L (fs1 (val ts) ts acc) = fb val' L (fs1 (val' ts) ts acc)
    rw [h ts (List.mem_cons_self ..)]
    exact fb_c L _ (fun t ht => h t (List.mem_cons_of_mem _ ht))
def uR (d : Dt) (R : Int → Int) : U3 := (decide (0 < dl d ∧ R 10 = -4), decide (1 < dl d ∧ R 11 = -4), decide (2 < dl d ∧ R 12 = -4))
noncomputable def bO (d : Dt) (R cs : Int → Int) : Ac := fb (fun ts => vT d cs ts R) (pm 3 (uR d R)) none
def OA (m : Mem) (acc : Ac) : Prop := match acc with
  | none => m 143 7 = 0
  | some q => m 143 7 = 1 ∧ m 143 6 = q.1 ∧ m 143 5 = q.2.length ∧ ∀ k : Nat, k < q.2.length → m 146 k = q.2.getD k 0
def OrdR (m : Mem) (d : Dt) (R cs : Int → Int) : Prop := OA m (bO d R cs)
theorem uo_r {u : U3} {j : Int} (h : uo u j = true) : 0 ≤ j ∧ j < 3 := by
  unfold uo at h
  by_cases q : j = 0
  · omega
  · rw [if_neg q] at h
    by_cases q1 : j = 1
    · omega
    · rw [if_neg q1] at h
      by_cases q2 : j = 2
      · omega
      · rw [if_neg q2] at h; exact absurd h (by decide)
theorem ud_o {u : U3} {i j : Int} (h : uo (ud u i) j = true) : uo u j = true ∧ j ≠ i := by
  have hr := uo_r h
  unfold uo ud at *
  rcases (show j = 0 ∨ j = 1 ∨ j = 2 by omega) with q | q | q <;> subst q <;> simp at h ⊢ <;> exact ⟨h.1, fun e => h.2 e.symm⟩
theorem pm_in : ∀ (k : Nat) (u : U3) (ts : List Int), ts ∈ pm k u → ∀ t, t ∈ ts → uo u t = true
  | 0, u, ts, h, t, ht => by
    have : ts = [] := by simpa [pm] using h
    rw [this] at ht
    exact absurd ht (by simp)
  | k + 1, u, ts, h, t, ht => by
    have hJ : ∀ j, ts ∈ pmJ (pm k) u j → uo u t = true := by
      intro j hj
      unfold pmJ at hj
      by_cases q : uo u j = true
      · rw [if_pos q] at hj
        obtain ⟨ts', h1, h2⟩ := List.mem_map.mp hj
        rw [← h2] at ht
        rcases List.mem_cons.mp ht with e | e
        · rw [e]; exact q
        · exact (ud_o (pm_in k (ud u j) ts' h1 t e)).1
      · rw [if_neg q] at hj
        exact absurd hj (by simp)
    unfold pm at h
    by_cases q : (u.1 || u.2.1 || u.2.2) = false
    · rw [if_pos q] at h
      have : ts = [] := by simpa using h
      rw [this] at ht
      exact absurd ht (by simp)
    · rw [if_neg q, List.mem_append, List.mem_append] at h
      rcases h with h | h | h
      · exact hJ 0 h
      · exact hJ 1 h
      · exact hJ 2 h
theorem uR_o {d : Dt} {R : Int → Int} {j : Int} : uo (uR d R) j = true ↔ (0 ≤ j ∧ j < 3) ∧ j < dl d ∧ R (10 + j) = -4 := by
  constructor
  · intro h
    have hr := uo_r h
    refine ⟨hr, ?_⟩
    unfold uo uR at h
    rcases (show j = 0 ∨ j = 1 ∨ j = 2 by omega) with q | q | q <;> subst q <;> simp at h <;> exact h
  · rintro ⟨hr, h1, h2⟩
    unfold uo uR
    rcases (show j = 0 ∨ j = 1 ∨ j = 2 by omega) with q | q | q <;> subst q <;> simp <;> exact ⟨h1, h2⟩
/-! ===== all that holds between two calls ===== -/
def wyA (i c : Int) : Int := 205 + 4 * (3 * i + c)
def WayC (m : Mem) : Prop := ∀ i c, 0 ≤ i → i < 3 → 0 ≤ c → c ≤ 2 → m (wyA i c) 8 = 0 ∨ i < dl (dt m) ∧ WayR m (wyA i c) (dt m) (m 242) i c
def OrdC (m : Mem) : Prop := m 143 8 = 0 ∨ (∀ i, 0 ≤ i → i < 3 → 0 ≤ m 144 i ∧ m 144 i ≤ 2) ∧ OrdR m (dt m) (m 242) (m 144)
def OrdF (m : Mem) : Prop := ∀ k, 0 ≤ k → k < 3 → m 147 k = 152 + 8 * k
def Inv (g : Shp) (m : Mem) : Prop := Core m ∧ RmOk g m ∧ LyOk m ∧ WayC m ∧ OrdC m ∧ OrdF m
theorem cR_c {d : Dt} {R S : Int → Int} {i c : Int} (hw : WLine d i) (h : RowEq R S) (hc : 0 ≤ c ∧ c ≤ 2) : cR d R i c = cR d S i c ∧ sR d R i c = sR d S i c := by
  have e1 : pcOf d R i = pcOf d S i := pcOf_c hw h
  have e2 : enR d R i = enR d S i := by unfold enR; rw [e1, h 0 (by decide) (by decide)]
  have e3 : xR d R i = xR d S i := by unfold xR; rw [e1]
  have e4 : bR R c = bR S c := by unfold bR; rw [h _ (by omega) (by omega), h _ (by omega) (by omega), h _ (by omega) (by omega)]
  unfold cR sR
  rw [e2, e3, e4]
  exact ⟨rfl, rfl⟩
theorem WayR_c {m m' : Mem} {w : Int} {d : Dt} {R S : Int → Int} {i c : Int} (hw : WLine d i) (h : RowEq R S) (hc : 0 ≤ c ∧ c ≤ 2) (hm : ∀ a, w ≤ a → a ≤ w + 3 → m' a = m a) (hW : WayR m w d R i c) : WayR m' w d S i c := by
  obtain ⟨e1, e2⟩ := cR_c hw h hc
  unfold WayR at *
  rw [hm w (by omega) (by omega), ← e1, ← e2]
  rcases hW with q | ⟨q1, q2, q3, q4, q5⟩
  · exact Or.inl q
  · exact Or.inr ⟨q1, q2, q3, q4.c hm, q5⟩
theorem covR_c {d : Dt} {R S : Int → Int} {i c : Int} (hw : WLine d i) (h : RowEq R S) (hi : 0 ≤ i ∧ i < 3) (hc : 0 ≤ c ∧ c ≤ 2) : RowEq (covR d R i c) (covR d S i c) := by
  obtain ⟨e1, e2⟩ := cR_c hw h hc
  intro k k0 k1
  unfold covR
  rw [← e1, ← e2, h 32 (by decide) (by decide), h 31 (by decide) (by decide), h k k0 k1]
  have : hand d i (-4) i (dn d i).toNat R k = hand d i (-4) i (dn d i).toNat S k := by unfold hand; rw [h k k0 k1]
  rw [this]
theorem vT_c {d : Dt} {cs : Int → Int} (hd : WPl d) (hcs : ∀ i, 0 ≤ i → i < 3 → 0 ≤ cs i ∧ cs i ≤ 2) : ∀ (ts : List Int) {R S : Int → Int}, RowEq R S → (∀ t, t ∈ ts → 0 ≤ t ∧ t < dl d) → vT d cs ts R = vT d cs ts S
  | [], _, _, _, _ => rfl
  | t :: ts, R, S, h, ht => by
    have h1 := ht t (List.mem_cons_self ..)
    have hl := hd.1.2
    have hc := hcs t h1.1 (by omega)
    have e := cR_c (hd.2.2 t h1.1 h1.2) h hc
    unfold vT
    rw [e.1, vT_c hd hcs ts (covR_c (hd.2.2 t h1.1 h1.2) h ⟨h1.1, by omega⟩ hc) (fun t' ht' => ht t' (List.mem_cons_of_mem _ ht'))]
theorem uR_c {d : Dt} {R S : Int → Int} (h : RowEq R S) : uR d R = uR d S := by
  unfold uR
  rw [h 10 (by decide) (by decide), h 11 (by decide) (by decide), h 12 (by decide) (by decide)]
theorem bO_c {d : Dt} {R S cs : Int → Int} (hd : WPl d) (hcs : ∀ i, 0 ≤ i → i < 3 → 0 ≤ cs i ∧ cs i ≤ 2) (h : RowEq R S) : bO d R cs = bO d S cs := by
  unfold bO
  rw [← uR_c h]
  refine fb_c _ _ (fun ts hts => vT_c hd hcs ts h (fun t ht => ?_))
  have := uR_o.mp (pm_in 3 _ ts hts t ht)
  omega
theorem OrdR_c {m m' : Mem} {d : Dt} {R S cs : Int → Int} (hd : WPl d) (hcs : ∀ i, 0 ≤ i → i < 3 → 0 ≤ cs i ∧ cs i ≤ 2) (h : RowEq R S) (h3 : m' 143 = m 143) (h6 : m' 146 = m 146) (hO : OrdR m d R cs) : OrdR m' d S cs := by
  unfold OrdR at *
  rw [← bO_c hd hcs h]
  unfold OA at *
  rw [h3, h6]
  exact hO
