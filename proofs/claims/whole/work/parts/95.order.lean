/-! ===== orders: the program's search ===== -/
theorem covR_10 {d : Dt} {R : Int → Int} {i c j : Int} (hi : 0 ≤ i ∧ i < 3) (hc : 0 ≤ c ∧ c ≤ 2) (hj : 0 ≤ j ∧ j < 3) : covR d R i c (10 + j) = if j = i then c else R (10 + j) := by
  unfold covR
  rw [if_neg (by omega), if_neg (by omega), if_neg (by omega)]
  by_cases q : j = i
  · rw [if_pos (by omega), if_pos q]
  · rw [if_neg (by omega), if_neg q, if_neg (by omega), if_neg (by omega), if_neg (by omega), if_neg (by omega), hand_lo (by omega)]
theorem uR_cov {d : Dt} {R : Int → Int} {i c : Int} (hi : 0 ≤ i ∧ i < 3) (hc : 0 ≤ c ∧ c ≤ 2) : uR d (covR d R i c) = ud (uR d R) i := by
  have e0 := covR_10 (d := d) (R := R) (j := 0) hi hc (by decide)
  have e1 := covR_10 (d := d) (R := R) (j := 1) hi hc (by decide)
  have e2 := covR_10 (d := d) (R := R) (j := 2) hi hc (by decide)
  have e0' : covR d R i c 10 = if 0 = i then c else R 10 := e0
  have e1' : covR d R i c 11 = if 1 = i then c else R 11 := e1
  have e2' : covR d R i c 12 = if 2 = i then c else R 12 := e2
  unfold uR ud
  rw [e0', e1', e2']
  have hc4 : c ≠ -4 := by omega
  rcases (show i = 0 ∨ i = 1 ∨ i = 2 by omega) with q | q | q <;> subst q <;> simp [hc4]
def fg (val : List Int → Int) (pre : List Int) : List (List Int) → Ac → Ac
  | [], acc => acc
  | ts :: L, acc => fg val pre L (fs1 (val ts) (pre ++ ts) acc)
theorem fg_app (val : List Int → Int) (pre : List Int) : ∀ (L M : List (List Int)) (acc : Ac), fg val pre (L ++ M) acc = fg val pre M (fg val pre L acc)
  | [], _, _ => rfl
  | ts :: L, M, acc => fg_app val pre L M (fs1 (val ts) (pre ++ ts) acc)
theorem fg_nil (val : List Int → Int) : ∀ (L : List (List Int)) (acc : Ac), fg val [] L acc = fb val L acc
  | [], _ => rfl
  | ts :: L, acc => fg_nil val L (fs1 (val ts) ts acc)
theorem fg_map {val val' : List Int → Int} {pre : List Int} {i : Int} : ∀ (L : List (List Int)) (acc : Ac), (∀ ts, ts ∈ L → val (i :: ts) = val' ts) → fg val pre (L.map (fun ts => i :: ts)) acc = fg val' (pre ++ [i]) L acc
  | [], _, _ => rfl
  | ts :: L, acc, h => by
    show fg val pre (L.map (fun ts => i :: ts)) (fs1 (val (i :: ts)) (pre ++ (i :: ts)) acc) = fg val' (pre ++ [i]) L (fs1 (val' ts) (pre ++ [i] ++ ts) acc)
    rw [h ts (List.mem_cons_self ..), show pre ++ [i] ++ ts = pre ++ (i :: ts) by simp]
    exact fg_map L _ (fun t ht => h t (List.mem_cons_of_mem _ ht))
/-- nothing better there -/
def noB (v : Int) (acc : Ac) : Prop := match acc with
  | none => 1000000 ≤ v
  | some q => q.1 ≤ v
theorem fg_no {val : List Int → Int} {pre : List Int} {acc : Ac} : ∀ (L : List (List Int)), (∀ ts, ts ∈ L → noB (val ts) acc) → fg val pre L acc = acc
  | [], _ => rfl
  | ts :: L, h => by
    show fg val pre L (fs1 (val ts) (pre ++ ts) acc) = acc
    have h1 := h ts (List.mem_cons_self ..)
    have : fs1 (val ts) (pre ++ ts) acc = acc := by
      unfold fs1
      unfold noB at h1
      cases acc with
      | none => dsimp only at h1 ⊢; rw [if_neg (by omega)]
      | some q => dsimp only at h1 ⊢; rw [if_neg (by omega)]
    rw [this]
    exact fg_no L (fun t ht => h t (List.mem_cons_of_mem _ ht))
def AcOk (acc : Ac) : Prop := ∀ q, acc = some q → q.1 < 1000000
theorem fs1_ok {v : Int} {ts : List Int} {acc : Ac} (h : AcOk acc) : AcOk (fs1 v ts acc) := by
  intro q hq
  unfold fs1 at hq
  cases acc with
  | none =>
    dsimp only at hq
    by_cases c : v < 1000000
    · rw [if_pos c] at hq
      rw [← Option.some.inj hq]; exact c
    · rw [if_neg c] at hq; exact absurd hq (by simp)
  | some p =>
    dsimp only at hq
    have hp := h p rfl
    by_cases c : v < p.1
    · rw [if_pos c] at hq
      rw [← Option.some.inj hq]; dsimp only; omega
    · rw [if_neg c] at hq
      rw [← Option.some.inj hq]; exact hp
theorem fg_ok {val : List Int → Int} {pre : List Int} : ∀ (L : List (List Int)) {acc : Ac}, AcOk acc → AcOk (fg val pre L acc)
  | [], _, h => h
  | ts :: L, _, h => fg_ok L (fs1_ok h)
theorem vT_b {d : Dt} {cs : Int → Int} (hd : WPl d) (hcs : ∀ i, 0 ≤ i → i < 3 → 0 ≤ cs i ∧ cs i ≤ 2) : ∀ (k : Nat) (R : Int → Int), WRow d R → ∀ ts, ts ∈ pm k (uR d R) → vT d cs ts R = 1000000 ∨ 0 ≤ vT d cs ts R ∧ vT d cs ts R ≤ 100 * k
  | 0, R, hW, ts, h => by
    have : ts = [] := by simpa [pm] using h
    rw [this]
    right
    show 0 ≤ (0 : Int) ∧ (0 : Int) ≤ _
    omega
  | k + 1, R, hW, ts, h => by
    have nil : ts = [] → vT d cs ts R = 1000000 ∨ 0 ≤ vT d cs ts R ∧ vT d cs ts R ≤ 100 * ((k + 1 : Nat) : Int) := by
      intro e
      rw [e]
      right
      show 0 ≤ (0 : Int) ∧ (0 : Int) ≤ _
      omega
    have hJ : ∀ j, ts ∈ pmJ (pm k) (uR d R) j → vT d cs ts R = 1000000 ∨ 0 ≤ vT d cs ts R ∧ vT d cs ts R ≤ 100 * ((k + 1 : Nat) : Int) := by
      intro j hj
      unfold pmJ at hj
      by_cases q : uo (uR d R) j = true
      · rw [if_pos q] at hj
        obtain ⟨ts', h1, h2⟩ := List.mem_map.mp hj
        have ho := uR_o.mp q
        have hc := hcs j ho.1.1 ho.1.2
        rw [← h2]
        unfold vT
        by_cases e : cR d R j (cs j) = 1000000
        · rw [if_pos e]; exact Or.inl rfl
        · rw [if_neg e]
          have hb := (cR_b (i := j) hd hW hc).resolve_left e
          rw [← uR_cov ho.1 hc] at h1
          have ih := vT_b hd hcs k _ (covR_w hd ⟨ho.1.1, ho.2.1⟩ hW hc e ho.2.2) ts' h1
          unfold pl
          by_cases e2 : vT d cs ts' (covR d R j (cs j)) = 1000000
          · rw [if_pos e2]; exact Or.inl rfl
          · rw [if_neg e2]
            have := ih.resolve_left e2
            right
            omega
      · rw [if_neg q] at hj
        exact absurd hj (by simp)
    unfold pm at h
    by_cases q : ((uR d R).1 || (uR d R).2.1 || (uR d R).2.2) = false
    · rw [if_pos q] at h
      exact nil (by simpa using h)
    · rw [if_neg q, List.mem_append, List.mem_append] at h
      rcases h with h | h | h
      · exact hJ 0 h
      · exact hJ 1 h
      · exact hJ 2 h
def pmN (k : Nat) (u : U3) : Nat → List (List Int)
  | 0 => []
  | i + 1 => pmN k u i ++ pmJ (pm k) u i
theorem pmN_3 {k : Nat} {u : U3} {n : Nat} (hn : n ≤ 3) (h : ∀ j : Int, n ≤ j → uo u j = false) : pmN k u n = pmJ (pm k) u 0 ++ (pmJ (pm k) u 1 ++ pmJ (pm k) u 2) := by
  have e : ∀ j : Int, n ≤ j → pmJ (pm k) u j = [] := fun j hj => by unfold pmJ; rw [h j hj]; rfl
  rcases (show n = 0 ∨ n = 1 ∨ n = 2 ∨ n = 3 by omega) with q | q | q | q <;> subst q
  · rw [e 0 (by decide), e 1 (by decide), e 2 (by decide)]; rfl
  · rw [e 1 (by decide), e 2 (by decide)]; show ([] ++ pmJ (pm k) u 0) = _; simp
  · rw [e 2 (by decide)]; show (([] ++ pmJ (pm k) u 0) ++ pmJ (pm k) u 1) = _; simp
  · show ((([] ++ pmJ (pm k) u 0) ++ pmJ (pm k) u 1) ++ pmJ (pm k) u 2) = _; simp
/-- so many lines are left at the most -/
def uc (u : U3) : Nat := (if u.1 then 1 else 0) + (if u.2.1 then 1 else 0) + (if u.2.2 then 1 else 0)
theorem uc_d : ∀ (a b c : Bool) (j : Fin 3), uo (a, b, c) ((j.val : Nat) : Int) = true → uc (ud (a, b, c) ((j.val : Nat) : Int)) + 1 = uc (a, b, c) := by decide +kernel
theorem uc_0 : ∀ (a b c : Bool), uc (a, b, c) = 0 → (a || b || c) = false := by decide +kernel
theorem uc_z : ∀ (a b c : Bool), (a || b || c) = false → uc (a, b, c) = 0 := by decide +kernel
theorem uc_s {u : U3} {j : Int} (h : uo u j = true) : uc (ud u j) + 1 = uc u := by
  obtain ⟨a, b, c⟩ := u
  have hr := uo_r h
  have := uc_d a b c ⟨j.toNat, by omega⟩
  rw [show (((⟨j.toNat, by omega⟩ : Fin 3).val : Nat) : Int) = j by show ((j.toNat : Nat) : Int) = j; omega] at this
  exact this h
/-- all that the search for orders needs, and what it keeps -/
def Cx (g : Shp) (m : Mem) (d : Dt) (cs : Int → Int) : Prop := (Sh g m ∧ gOk g) ∧ RmOk g m ∧ LyOk m ∧ OrdF m ∧ (dt m = d ∧ WPl d ∧ ((m 1 6 = 177 ∨ m 1 6 = 191) ∧ IPl m (m 1 6) d)) ∧ ∀ i, 0 ≤ i → i < 3 → m 144 i = cs i
def SoF (n : Int) (m m' : Mem) : Prop := (∀ a, a ≤ 267 → (a < 5 ∨ 84 < a) → (a < 143 ∨ a = 144 ∨ a = 147 ∨ 152 ≤ a ∧ a < 152 + 8 * n ∨ 175 < a) → m' a = m a) ∧ (∀ k, k < n → m' 145 k = m 145 k) ∧ m' 143 8 = m 143 8
theorem SoF.rf (n : Int) (m : Mem) : SoF n m m := ⟨fun _ _ _ _ => rfl, fun _ _ => rfl, rfl⟩
theorem SoF.tr {n : Int} {m m' m'' : Mem} (h : SoF n m m') (h2 : SoF n m' m'') : SoF n m m'' := ⟨fun a a1 a2 a3 => (h2.1 a a1 a2 a3).trans (h.1 a a1 a2 a3), fun k hk => (h2.2.1 k hk).trans (h.2.1 k hk), h2.2.2.trans h.2.2⟩
theorem SoF.mo {n k : Int} {m m' : Mem} (h : SoF k m m') (hk : n ≤ k) : SoF n m m' := ⟨fun a a1 a2 a3 => h.1 a a1 a2 (by omega), fun j hj => h.2.1 j (by omega), h.2.2⟩
def flA (n : Int) : Int := if n = 0 then 85 else 152 + 8 * (n - 1)
theorem OA_c {m m' : Mem} {acc : Ac} (h : OA m acc) (h5 : m' 143 5 = m 143 5) (h6 : m' 143 6 = m 143 6) (h7 : m' 143 7 = m 143 7) (h146 : m' 146 = m 146) : OA m' acc := by
  unfold OA at *
  rw [h5, h6, h7, h146]
  exact h
theorem tX3_isFewer {g : Shp} {m : Mem} {c : Int} {acc : Ac} (h : OA m acc) (hc : c < 1000000) : T (eX3_isFewer g c m) (fun r => r.2 = m ∧ ((r.1 = 1 ∧ ¬ noB c acc) ∨ r.1 = 0 ∧ noB c acc)) := by
  unfold eX3_isFewer ebX3_isFewer_0 ebX3_isFewer_15 ebX3_isFewer_20
  unfold OA at h
  unfold noB
  cases acc with
  | none =>
    dsimp only at h ⊢
    rw [h]
    exact T_it rfl (T_ck (by decide) (T_some ⟨rfl, Or.inl ⟨rfl, by omega⟩⟩))
  | some q =>
    dsimp only at h ⊢
    rw [h.1, h.2.1]
    refine T_ie (by decide) (T_if (fun c1 => T_ck (by decide) (T_some ⟨rfl, Or.inr ⟨rfl, c1⟩⟩)) (fun c1 => T_ck (by decide) (T_some ⟨rfl, Or.inl ⟨rfl, c1⟩⟩)))
