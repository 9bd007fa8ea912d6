/-! ===== whole numbers: iI x is the Int32 of x ===== -/
def iI (x : Int) : Int32 := Int32.ofInt x
def r32 (x : Int) : Prop := -2147483648 ≤ x ∧ x < 2147483648
def w32 (x : Int) : Int := Int.bmod x 4294967296
theorem r32_w (x : Int) : r32 (w32 x) := by
  have h1 := @Int.le_bmod x 4294967296 (by decide)
  have h2 := @Int.bmod_lt x 4294967296 (by decide)
  unfold r32 w32
  omega
theorem w32_id {x : Int} (h1 : -2147483648 ≤ x) (h2 : x < 2147483648) : w32 x = x := Int.bmod_eq_of_le (by omega) (by omega)
theorem iI_w (x : Int) : iI (w32 x) = iI x := Int32.toInt.inj (by simp [iI, w32, Int32.size])
theorem iI_toInt {x : Int} (h : r32 x) : (iI x).toInt = x := Int32.toInt_ofInt_of_le (by have := h.1; omega) (by have := h.2; omega)
theorem iI_of (x : Int32) : iI x.toInt = x := Int32.ofInt_toInt x
theorem r32_of (x : Int32) : r32 x.toInt := by
  have h1 := x.le_toInt
  have h2 := x.toInt_lt
  unfold r32
  omega
theorem iI_add (a b : Int) : iI a + iI b = iI (w32 (a + b)) := by rw [iI_w]; exact (Int32.ofInt_add a b).symm
theorem iI_sub (a b : Int) : iI a - iI b = iI (w32 (a - b)) := by rw [iI_w]; exact (Int32.ofInt_sub a b).symm
theorem iI_mul (a b : Int) : iI a * iI b = iI (w32 (a * b)) := by rw [iI_w]; exact (Int32.ofInt_mul a b).symm
theorem iI_le {a b : Int} (ha : r32 a) (hb : r32 b) : iI a ≤ iI b ↔ a ≤ b := by rw [Int32.le_iff_toInt_le, iI_toInt ha, iI_toInt hb]
theorem iI_lt {a b : Int} (ha : r32 a) (hb : r32 b) : iI a < iI b ↔ a < b := by rw [Int32.lt_iff_toInt_lt, iI_toInt ha, iI_toInt hb]
theorem iI_eq {a b : Int} (ha : r32 a) (hb : r32 b) : iI a = iI b ↔ a = b := by rw [← Int32.toInt_inj, iI_toInt ha, iI_toInt hb]
theorem iI_eq0 {a : Int} (ha : r32 a) : iI a = 0 ↔ a = 0 := iI_eq (b := 0) ha ⟨by decide, by decide⟩
theorem iI_le0 {a : Int} (ha : r32 a) : iI a ≤ 0 ↔ a ≤ 0 := iI_le (b := 0) ha ⟨by decide, by decide⟩
theorem iI_lt0 {a : Int} (ha : r32 a) : iI a < 0 ↔ a < 0 := iI_lt (b := 0) ha ⟨by decide, by decide⟩
theorem iI_0le {a : Int} (ha : r32 a) : 0 ≤ iI a ↔ 0 ≤ a := iI_le (a := 0) ⟨by decide, by decide⟩ ha
theorem iI_0lt {a : Int} (ha : r32 a) : 0 < iI a ↔ 0 < a := iI_lt (a := 0) ⟨by decide, by decide⟩ ha
theorem iI_in {i : Int} {n : Nat} (h0 : 0 ≤ i) (h1 : i < n) (hr : i < 2147483648) : vp_in (iI i) n := by
  rw [vp_in_iff, iI_toInt ⟨by omega, hr⟩]
  exact ⟨h0, h1⟩
theorem iI_cl {i : Int} (h0 : 0 ≤ i) (h1 : i < 2147483648) : (iI i).toNatClampNeg = i.toNat := by
  rw [← Int32.toNat_toInt, iI_toInt ⟨by omega, h1⟩]
/-- the plain quotient and rest of Java -/
def jdiv (a b : Int) : Int := w32 (a.tdiv b)
def jrem (a b : Int) : Int := w32 (a - w32 (jdiv a b * b))
theorem iI_div {a b : Int} (ha : r32 a) (hb : r32 b) : iI a / iI b = iI (jdiv a b) := Int32.toInt.inj (by
  rw [Int32.toInt_div, iI_toInt ha, iI_toInt hb]; unfold jdiv; rw [iI_toInt (r32_w _)]; rfl)
theorem iI_rem {a b : Int} (ha : r32 a) (hb : r32 b) : iI a - iI a / iI b * iI b = iI (jrem a b) := by
  rw [iI_div ha hb, iI_mul, iI_sub]; rfl
def bAnd (a b : Int) : Int := (iI a &&& iI b).toInt
def bOr (a b : Int) : Int := (iI a ||| iI b).toInt
def bShl (a b : Int) : Int := (iI a <<< (iI b &&& 31)).toInt
def bShr (a b : Int) : Int := (iI a >>> (iI b &&& 31)).toInt
def bUshr (a b : Int) : Int := ((iI a).toUInt32 >>> ((iI b).toUInt32 &&& Int32.toUInt32 31)).toInt32.toInt
def c16 (a : Int) : Int := ((iI a).toUInt32 % 65536).toInt32.toInt
/-! ===== the store: a shape (how many cells, how many places, the kind and the length of each cell) and what the places hold ===== -/
abbrev Mem : Type := Int → Int → Int
abbrev Shp : Type := Nat × Nat × (Int → Nat) × (Int → Int)
def gn (g : Shp) : Nat := g.1
def gs (g : Shp) : Nat := g.2.1
def gk (g : Shp) (r : Int) : Nat := g.2.2.1 r
def gl (g : Shp) (r : Int) : Int := g.2.2.2 r
def ms (m : Mem) (r j v : Int) : Mem := fun a b => if a = r ∧ b = j then v else m a b
theorem ms_at (m : Mem) (r j v : Int) : ms m r j v r j = v := by simp [ms]
theorem ms_ne {m : Mem} {r j v a b : Int} (h : ¬ (a = r ∧ b = j)) : ms m r j v a b = m a b := by simp [ms, h]
/-- n places from dp on of the row d hold what those from sp on of the row s held -/
def mcp (m : Mem) (s sp d dp n : Int) : Mem := fun a b => if a = d ∧ dp ≤ b ∧ b < dp + n then m s (sp + (b - dp)) else m a b
/-- a new cell behind the others -/
def gA (g : Shp) (k : Nat) (len : Int) (slots : Nat) : Shp := (g.1 + 1, g.2.1 + slots, (fun r => if r = (g.1 : Int) + 1 then k else g.2.2.1 r), (fun r => if r = (g.1 : Int) + 1 then len else g.2.2.2 r))
def mA (g : Shp) (m : Mem) : Mem := fun a b => if a = (g.1 : Int) + 1 then 0 else m a b
def gOk (g : Shp) : Prop := (∀ r, gk g r ≠ 0 → 1 ≤ r ∧ r ≤ gn g) ∧ gn g < 2147483648 ∧ ∀ r, 0 ≤ gl g r ∧ gl g r < 2147483648
/-! ===== checks, names for values, loops ===== -/
def ck {α : Type} (c : Prop) [Decidable c] (x : Option α) : Option α := if c then x else none
def vv {α : Type} (v : Int) (k : Int → Option α) : Option α := k v
def vm {α : Type} (m : Mem) (k : Mem → Option α) : Option α := k m
theorem ck_ok {α : Type} {c : Prop} [Decidable c] {x : Option α} {y : α} (h : ck c x = some y) : c ∧ x = some y := by
  unfold ck at h
  split at h
  · exact ⟨by assumption, h⟩
  · exact absurd h (by simp)
theorem vv_ok {α : Type} {v : Int} {k : Int → Option α} {y : α} (h : vv v k = some y) : ∃ x, x = v ∧ k x = some y := ⟨v, rfl, h⟩
theorem vm_ok {α : Type} {v : Mem} {k : Mem → Option α} {y : α} (h : vm v k = some y) : ∃ x, x = v ∧ k x = some y := ⟨v, rfl, h⟩
theorem bd_ok {α β : Type} {a : Option α} {k : α → Option β} {y : β} (h : a.bind k = some y) : ∃ x, a = some x ∧ k x = some y := Option.bind_eq_some_iff.mp h
theorem if_t {α : Type} {c : Prop} [Decidable c] {a b : Option α} {y : α} (hc : c) (h : (if c then a else b) = some y) : a = some y := by rwa [if_pos hc] at h
theorem if_f {α : Type} {c : Prop} [Decidable c] {a b : Option α} {y : α} (hc : ¬ c) (h : (if c then a else b) = some y) : b = some y := by rwa [if_neg hc] at h
def bd2 {α : Type} (a : Option (Int × Mem)) (k : Int → Mem → Option α) : Option α := a.bind fun q => k q.1 q.2
theorem bd2_ok {α : Type} {a : Option (Int × Mem)} {k : Int → Mem → Option α} {y : α} (h : bd2 a k = some y) : ∃ r m, a = some (r, m) ∧ k r m = some y := by
  obtain ⟨⟨r, m⟩, h1, h2⟩ := Option.bind_eq_some_iff.mp h
  exact ⟨r, m, h1, h2⟩
def bdl {σ α : Type} (a : Option (Int × σ)) (k : Int → σ → Option α) : Option α := a.bind fun q => k q.1 q.2
theorem bdl_ok {σ α : Type} {a : Option (Int × σ)} {k : Int → σ → Option α} {y : α} (h : bdl a k = some y) : ∃ r s, a = some (r, s) ∧ k r s = some y := by
  obtain ⟨⟨r, s⟩, h1, h2⟩ := Option.bind_eq_some_iff.mp h
  exact ⟨r, s, h1, h2⟩
def iter {σ : Type} (B : σ → Option (Int × σ)) : Nat → σ → Option (Int × σ)
  | 0, _ => none
  | n + 1, s => (B s).bind fun q => if q.1 = 0 then iter B n q.2 else some q
theorem iter_W {σ : Type} {B : σ → Option (Int × σ)} {Pw : σ → Prop} {Px : Int → σ → Prop}
    (step : ∀ s c s', B s = some (c, s') → (c = 0 → Pw s') → (c ≠ 0 → Px c s') → Pw s) : ∀ n s c s', iter B n s = some (c, s') → Px c s' → Pw s := by
  intro n
  induction n with
  | zero => intro s c s' h; exact absurd h (by simp [iter])
  | succ n ih =>
    intro s c s' h hx
    unfold iter at h
    obtain ⟨⟨c1, s1⟩, h1, h2⟩ := bd_ok h
    by_cases hc : c1 = 0
    · rw [if_pos hc] at h2
      exact step s c1 s1 h1 (fun _ => ih s1 c s' h2 hx) (fun h => absurd hc h)
    · rw [if_neg hc] at h2
      cases h2
      exact step s c s' h1 (fun h => absurd h hc) (fun _ => hx)
theorem rl (n : Int) (h : decide (-2147483648 ≤ n ∧ n < 2147483648) = true) : r32 n := by
  have h2 : -2147483648 ≤ n ∧ n < 2147483648 := of_decide_eq_true h
  exact h2
