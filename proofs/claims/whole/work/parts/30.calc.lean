/-! ===== what holds behind a computation ===== -/
theorem w32_w (x : Int) : w32 (w32 x) = w32 x := by unfold w32; simp
def T {α : Type} (x : Option α) (P : α → Prop) : Prop := ∃ y, x = some y ∧ P y
theorem T_some {α : Type} {y : α} {P : α → Prop} (h : P y) : T (some y) P := ⟨y, rfl, h⟩
theorem T_mono {α : Type} {x : Option α} {P Q : α → Prop} (h : T x P) (hq : ∀ y, P y → Q y) : T x Q := by
  obtain ⟨y, a, b⟩ := h
  exact ⟨y, a, hq y b⟩
theorem T_eq {α : Type} {x : Option α} {P : α → Prop} (h : T x P) : T x (fun y => x = some y ∧ P y) := by
  obtain ⟨y, a, b⟩ := h
  exact ⟨y, a, a, b⟩
theorem T_ck {α : Type} {c : Prop} [Decidable c] {x : Option α} {P : α → Prop} (hc : c) (h : T x P) : T (ck c x) P := by
  unfold ck
  rw [if_pos hc]
  exact h
theorem T_vv {α : Type} {v : Int} {k : Int → Option α} {P : α → Prop} (h : T (k v) P) : T (vv v k) P := h
theorem T_vm {α : Type} {v : Mem} {k : Mem → Option α} {P : α → Prop} (h : T (k v) P) : T (vm v k) P := h
theorem T_vm' {α : Type} {v : Mem} {k : Mem → Option α} {P : α → Prop} (h : ∀ m', m' = v → T (k m') P) : T (vm v k) P := h v rfl
theorem T_vv' {α : Type} {v : Int} {k : Int → Option α} {P : α → Prop} (h : ∀ y, y = v → T (k y) P) : T (vv v k) P := h v rfl
theorem T_bd2 {α : Type} {a : Option (Int × Mem)} {k : Int → Mem → Option α} {Q : Int × Mem → Prop} {P : α → Prop} (ha : T a Q) (h : ∀ r m', Q (r, m') → T (k r m') P) : T (bd2 a k) P := by
  obtain ⟨⟨r, m'⟩, h1, h2⟩ := ha
  rw [h1]
  exact h r m' h2
theorem T_bd3 {α : Type} {a : Option (Int × Shp × Mem)} {k : Int → Shp → Mem → Option α} {Q : Int × Shp × Mem → Prop} {P : α → Prop} (ha : T a Q) (h : ∀ r g' m', Q (r, g', m') → T (k r g' m') P) : T (bd3 a k) P := by
  obtain ⟨⟨r, g', m'⟩, h1, h2⟩ := ha
  rw [h1]
  exact h r g' m' h2
theorem T_bdl {σ α : Type} {a : Option (Int × σ)} {k : Int → σ → Option α} {Q : Int × σ → Prop} {P : α → Prop} (ha : T a Q) (h : ∀ r s, Q (r, s) → T (k r s) P) : T (bdl a k) P := by
  obtain ⟨⟨r, s⟩, h1, h2⟩ := ha
  rw [h1]
  exact h r s h2
theorem T_if {α : Type} {c : Prop} [Decidable c] {a b : Option α} {P : α → Prop} (ht : c → T a P) (hf : ¬ c → T b P) : T (if c then a else b) P := by
  by_cases h : c
  · rw [if_pos h]; exact ht h
  · rw [if_neg h]; exact hf h
theorem T_it {α : Type} {c : Prop} [Decidable c] {a b : Option α} {P : α → Prop} (hc : c) (ht : T a P) : T (if c then a else b) P := by
  rw [if_pos hc]; exact ht
theorem T_ie {α : Type} {c : Prop} [Decidable c] {a b : Option α} {P : α → Prop} (hc : ¬ c) (ht : T b P) : T (if c then a else b) P := by
  rw [if_neg hc]; exact ht
/-- behind a loop's body: it goes on with I and less to do, or it ends with Q -/
def G {σ : Type} (I : σ → Prop) (μ : σ → Nat) (k : Nat) (Q : Int × σ → Prop) (q : Int × σ) : Prop := (q.1 = 0 → I q.2 ∧ μ q.2 < k) ∧ (q.1 ≠ 0 → Q q)
theorem iter_T {σ : Type} {B : σ → Option (Int × σ)} (I : σ → Prop) (μ : σ → Nat) {Q : Int × σ → Prop}
    (step : ∀ s, I s → T (B s) (G I μ (μ s) Q)) : ∀ (n : Nat) (s : σ), I s → μ s < n → T (iter B n s) Q := by
  intro n
  induction n with
  | zero => intro s _ h; omega
  | succ n ih =>
    intro s hI hm
    obtain ⟨⟨c, s'⟩, h1, h2, h3⟩ := step s hI
    unfold iter
    rw [h1]
    simp only [Option.bind]
    by_cases hc : c = 0
    · rw [if_pos hc]
      have h4 := h2 hc
      exact ih s' h4.1 (Nat.lt_of_lt_of_le h4.2 (Nat.le_of_lt_succ hm))
    · rw [if_neg hc]
      exact ⟨(c, s'), rfl, h3 hc⟩
/-- a loop's step that goes on, and one that ends -/
theorem T_go {σ : Type} {s : σ} {I : σ → Prop} {Q : Int × σ → Prop} {μ : σ → Nat} {k : Nat} (h : I s) (hm : μ s < k) : T (some ((0 : Int), s)) (G I μ k Q) :=
  ⟨_, rfl, fun _ => ⟨h, hm⟩, fun h => absurd rfl h⟩
theorem T_out {σ : Type} {c : Int} {s : σ} {I : σ → Prop} {Q : Int × σ → Prop} {μ : σ → Nat} {k : Nat} (hc : c ≠ 0) (h : Q (c, s)) : T (some (c, s)) (G I μ k Q) :=
  ⟨_, rfl, fun h => absurd h hc, fun _ => h⟩
/-- the loop's rule for one number and the store, and for two -/
theorem iter1 {B : Int × Mem → Option (Int × (Int × Mem))} (I : Int → Mem → Prop) (μ : Int → Nat) {Q : Int × (Int × Mem) → Prop} {k0 : Int} {m0 : Mem} {n : Nat}
    (h0 : I k0 m0) (hn : μ k0 < n) (step : ∀ k m, I k m → T (B (k, m)) (G (fun q => I q.1 q.2) (fun q => μ q.1) (μ k) Q)) : T (iter B n (k0, m0)) Q :=
  iter_T (fun q => I q.1 q.2) (fun q => μ q.1) (fun s hs => step s.1 s.2 hs) n (k0, m0) h0 hn
theorem iter2 {B : Int × Int × Mem → Option (Int × (Int × Int × Mem))} (I : Int → Int → Mem → Prop) (μ : Int → Int → Nat) {Q : Int × (Int × Int × Mem) → Prop} {k0 j0 : Int} {m0 : Mem} {n : Nat}
    (h0 : I k0 j0 m0) (hn : μ k0 j0 < n) (step : ∀ k j m, I k j m → T (B (k, j, m)) (G (fun q => I q.1 q.2.1 q.2.2) (fun q => μ q.1 q.2.1) (μ k j) Q)) : T (iter B n (k0, j0, m0)) Q :=
  iter_T (fun q => I q.1 q.2.1 q.2.2) (fun q => μ q.1 q.2.1) (fun s hs => step s.1 s.2.1 s.2.2 hs) n (k0, j0, m0) h0 hn
theorem iter3 {B : Int × Int × Int × Mem → Option (Int × (Int × Int × Int × Mem))} (I : Int → Int → Int → Mem → Prop) (μ : Int → Int → Int → Nat) {Q : Int × (Int × Int × Int × Mem) → Prop} {k0 j0 i0 : Int} {m0 : Mem} {n : Nat}
    (h0 : I k0 j0 i0 m0) (hn : μ k0 j0 i0 < n) (step : ∀ k j i m, I k j i m → T (B (k, j, i, m)) (G (fun q => I q.1 q.2.1 q.2.2.1 q.2.2.2) (fun q => μ q.1 q.2.1 q.2.2.1) (μ k j i) Q)) : T (iter B n (k0, j0, i0, m0)) Q :=
  iter_T (fun q => I q.1 q.2.1 q.2.2.1 q.2.2.2) (fun q => μ q.1 q.2.1 q.2.2.1) (fun s hs => step s.1 s.2.1 s.2.2.1 s.2.2.2 hs) n (k0, j0, i0, m0) h0 hn
theorem ms_x {m : Mem} {r j v a b : Int} (h : a ≠ r) : ms m r j v a b = m a b := ms_ne (fun q => h q.1)
theorem ms_y {m : Mem} {r j v a b : Int} (h : b ≠ j) : ms m r j v a b = m a b := ms_ne (fun q => h q.2)
theorem mcp_x {m : Mem} {s sp d dp n a b : Int} (h : a ≠ d) : mcp m s sp d dp n a b = m a b := by
  unfold mcp
  rw [if_neg (fun q => h q.1)]
theorem mcp_in {m : Mem} {s sp d dp n b : Int} (h1 : dp ≤ b) (h2 : b < dp + n) : mcp m s sp d dp n d b = m s (sp + (b - dp)) := by
  unfold mcp
  rw [if_pos ⟨rfl, h1, h2⟩]
theorem mcp_out {m : Mem} {s sp d dp n b : Int} (h : b < dp ∨ dp + n ≤ b) : mcp m s sp d dp n d b = m d b := by
  unfold mcp
  rw [if_neg (fun q => by omega)]
theorem mcp_0 (m : Mem) (s sp d dp : Int) : mcp m s sp d dp 0 = m := by
  funext a b
  unfold mcp
  rw [if_neg (fun q => by omega)]
/-- one place more -/
theorem mcp_s {m : Mem} {s sp d dp n v : Int} (hn : 0 ≤ n) (hv : v = m s (sp + n)) : ms (mcp m s sp d dp n) d (dp + n) v = mcp m s sp d dp (n + 1) := by
  funext a b
  unfold ms mcp
  by_cases h : a = d
  · by_cases h2 : b = dp + n
    · rw [if_pos ⟨h, h2⟩, if_pos ⟨h, by omega, by omega⟩, hv, h2]
      congr 1
      omega
    · rw [if_neg (fun q => h2 q.2)]
      by_cases h3 : dp ≤ b ∧ b < dp + n
      · rw [if_pos ⟨h, h3⟩, if_pos ⟨h, by omega, by omega⟩]
      · rw [if_neg (fun q => h3 q.2), if_neg (fun q => by omega)]
  · rw [if_neg (fun q => h q.1), if_neg (fun q => h q.1), if_neg (fun q => h q.1)]
/-! ===== the reference: rows brought, kept and given back ===== -/
theorem tX11_bring {g : Shp} {m : Mem} {s sp d dp : Int} (hsd : s ≠ d) (h1 : 0 ≤ sp) (h2 : sp + 433 ≤ gl g s) (h3 : 0 ≤ dp) (h4 : dp + 433 ≤ gl g d) (hs : gl g s ≤ 100000) (hd : gl g d ≤ 100000) :
    T (eX11_bring g s sp d dp m) (fun q => q = (0, mcp m s sp d dp 433)) := by
  unfold eX11_bring ebX11_bring_0
  refine T_bdl (Q := fun q => q.2.2 = mcp m s sp d dp 433) (iter1 (fun k m' => 0 ≤ k ∧ k ≤ 433 ∧ m' = mcp m s sp d dp k) (fun k => (433 - k).toNat) ⟨by decide, by decide, (mcp_0 m s sp d dp).symm⟩ (by decide) ?_) ?_
  · rintro k m' ⟨hk0, hk1, hm⟩
    unfold eBX11_bring_3 ebX11_bring_3
    simp only
    refine T_if (fun hc => T_out (by decide) ?_) (fun hc => ?_)
    · simp only
      rw [hm, show k = 433 by omega]
    · rw [w32_id (x := sp + k) (by omega) (by omega), w32_id (x := dp + k) (by omega) (by omega), w32_id (x := k + 1) (by omega) (by omega)]
      refine T_ck ⟨by omega, by omega⟩ (T_ck ⟨by omega, by omega⟩ (T_vm (T_vv (T_go ⟨by simp only; omega, by simp only; omega, ?_⟩ (by simp only; omega)))))
      simp only
      rw [hm]
      exact mcp_s hk0 (mcp_x hsd)
  · intro r s' hq
    unfold ebX11_bring_29
    simp only at hq
    rw [hq]
    exact T_some rfl
