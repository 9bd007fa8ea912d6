/-! ===== where a line's pieces lie: cells left, from the last piece on ===== -/
def LR (q : Pc) : Nat → Int × (Int → Int) × (Int → Int)
  | 0 => (0, (fun _ => 0), (fun _ => 0))
  | j + 1 => ((LR q j).1 + q.2.1 (q.1 - 1 - j), (fun x => if (LR q j).1 < x ∧ x ≤ (LR q j).1 + q.2.1 (q.1 - 1 - j) then x - (LR q j).1 else (LR q j).2.1 x), (fun x => if (LR q j).1 < x ∧ x ≤ (LR q j).1 + q.2.1 (q.1 - 1 - j) then q.2.2.1 (q.1 - 1 - j) else (LR q j).2.2 x))
/-- pieces as they can be -/
def Wq (q : Pc) : Prop := 0 ≤ q.1 ∧ (∀ p, 0 ≤ p → p < q.1 → 1 ≤ q.2.1 p ∧ q.2.1 p ≤ 12) ∧ (∀ p, 0 ≤ p → p < q.1 → q.2.2.1 p = 0 ∨ q.2.2.1 p = 1) ∧ rsum q.2.1 q.1.toNat ≤ 60
theorem LR_mo {q : Pc} (h : Wq q) {j : Nat} (hj : j < q.1) : (LR q j).1 < (LR q (j + 1)).1 := by
  have := (h.2.1 (q.1 - 1 - j) (by omega) (by omega)).1
  show _ < (LR q j).1 + q.2.1 (q.1 - 1 - j)
  omega
theorem LR_mo2 {q : Pc} (h : Wq q) : ∀ (k j : Nat), ((j + k : Nat) : Int) ≤ q.1 → (LR q j).1 ≤ (LR q (j + k)).1
  | 0, j, _ => Int.le_refl _
  | k + 1, j, hj => by
    have h1 := LR_mo2 h k j (by omega)
    have h2 := LR_mo h (j := j + k) (by omega)
    rw [← Nat.add_assoc]
    omega
theorem LR_0 {q : Pc} (h : Wq q) {j : Nat} (hj : (j : Int) ≤ q.1) : 0 ≤ (LR q j).1 := by
  have := LR_mo2 h j 0 (by omega)
  rw [Nat.zero_add] at this
  exact this
theorem LR_keep {q : Pc} (h : Wq q) {x : Int} : ∀ (k j : Nat), ((j + k : Nat) : Int) ≤ q.1 → x ≤ (LR q j).1 → (LR q (j + k)).2.1 x = (LR q j).2.1 x ∧ (LR q (j + k)).2.2 x = (LR q j).2.2 x
  | 0, j, _, _ => ⟨rfl, rfl⟩
  | k + 1, j, hj, hx => by
    have h1 := LR_keep h k j (by omega) hx
    have h2 := LR_mo2 h k j (by omega)
    rw [← Nat.add_assoc]
    constructor
    · show (if (LR q (j + k)).1 < x ∧ x ≤ (LR q (j + k)).1 + q.2.1 (q.1 - 1 - ((j + k : Nat) : Int)) then _ else _) = _
      rw [if_neg (by omega)]; exact h1.1
    · show (if (LR q (j + k)).1 < x ∧ x ≤ (LR q (j + k)).1 + q.2.1 (q.1 - 1 - ((j + k : Nat) : Int)) then _ else _) = _
      rw [if_neg (by omega)]; exact h1.2
/-- the cells behind piece p -/
def lS (q : Pc) (p : Int) : Int := (LR q (q.1 - 1 - p).toNat).1
def enQ (z : Int → Int) (J : Int) (q : Pc) : En := (z, J, (LR q q.1.toNat).2.1, (LR q q.1.toNat).2.2)
theorem lS_s {q : Pc} {p : Int} (hp : 0 ≤ p ∧ p + 1 < q.1) : lS q p = q.2.1 (p + 1) + lS q (p + 1) := by
  unfold lS
  obtain ⟨j, hj⟩ : ∃ j : Nat, q.1 - 1 - (p + 1) = j := ⟨(q.1 - 1 - (p + 1)).toNat, by omega⟩
  rw [show (q.1 - 1 - p).toNat = j + 1 by omega, show (q.1 - 1 - (p + 1)).toNat = j by omega]
  show (LR q j).1 + q.2.1 (q.1 - 1 - j) = _
  rw [show q.1 - 1 - (j : Int) = p + 1 by omega]
  omega
theorem lS_l {q : Pc} (hn : 0 < q.1) : lS q (q.1 - 1) = 0 := by
  unfold lS
  rw [show (q.1 - 1 - (q.1 - 1)).toNat = 0 by omega]
  rfl
theorem lS_0 {q : Pc} (h : Wq q) {p : Int} (hp : 0 ≤ p ∧ p < q.1) : 0 ≤ lS q p := LR_0 h (by omega)
theorem Pce_q {q : Pc} (h : Wq q) {z : Int → Int} {J p : Int} (hp : 0 ≤ p ∧ p < q.1) : Pce (enQ z J q) (lS q p) (q.2.1 p).toNat (q.2.2.1 p).toNat := by
  intro k k1 k2
  have hl := h.2.1 p hp.1 hp.2
  have hb := h.2.2.1 p hp.1 hp.2
  obtain ⟨j, hj⟩ : ∃ j : Nat, q.1 - 1 - p = j := ⟨(q.1 - 1 - p).toNat, by omega⟩
  have ej1 : (q.1 - 1 - p).toNat = j := by omega
  have ep : q.1 - 1 - (j : Int) = p := by omega
  unfold lS
  rw [ej1]
  have ea : (LR q (j + 1)).1 = (LR q j).1 + q.2.1 p := by
    show (LR q j).1 + q.2.1 (q.1 - 1 - j) = _
    rw [ep]
  have hk := LR_keep h (x := (LR q j).1 + k) (q.1.toNat - (j + 1)) (j + 1) (by omega) (by omega)
  rw [show j + 1 + (q.1.toNat - (j + 1)) = q.1.toNat by omega] at hk
  constructor
  · show (LR q q.1.toNat).2.1 ((LR q j).1 + k) = k
    rw [hk.1]
    show (if (LR q j).1 < (LR q j).1 + k ∧ (LR q j).1 + (k : Int) ≤ (LR q j).1 + q.2.1 (q.1 - 1 - j) then (LR q j).1 + (k : Int) - (LR q j).1 else _) = _
    rw [ep, if_pos (by omega)]; omega
  · show (LR q q.1.toNat).2.2 ((LR q j).1 + k) = _
    rw [hk.2]
    show (if (LR q j).1 < (LR q j).1 + k ∧ (LR q j).1 + (k : Int) ≤ (LR q j).1 + q.2.1 (q.1 - 1 - j) then q.2.2.1 (q.1 - 1 - j) else _) = _
    rw [ep, if_pos (by omega)]; omega
theorem LR_sum {q : Pc} (h : Wq q) : ∀ j : Nat, (j : Int) ≤ q.1 → (LR q j).1 + rsum q.2.1 (q.1.toNat - j) = rsum q.2.1 q.1.toNat
  | 0, _ => by show (0 : Int) + _ = _; rw [Nat.sub_zero]; omega
  | j + 1, hj => by
    have h1 := LR_sum h j (by omega)
    have e : q.1.toNat - j = (q.1.toNat - (j + 1)) + 1 := by omega
    rw [e] at h1
    show (LR q j).1 + q.2.1 (q.1 - 1 - j) + rsum q.2.1 (q.1.toNat - (j + 1)) = _
    have e2 : rsum q.2.1 (q.1.toNat - (j + 1) + 1) = rsum q.2.1 (q.1.toNat - (j + 1)) + q.2.1 ((q.1.toNat - (j + 1) : Nat) : Int) := rfl
    rw [e2, show ((q.1.toNat - (j + 1) : Nat) : Int) = q.1 - 1 - j by omega] at h1
    omega
/-- all cells that are left at (p, k) -/
def lft (q : Pc) (p k : Int) : Int := if p < q.1 then lS q p + k else 0
def lfl (q : Pc) (p : Int) : Int := if p < q.1 then q.2.1 p else 0
theorem lft_next {q : Pc} {p : Int} (hp : 0 ≤ p ∧ p < q.1) : lft q (p + 1) (lfl q (p + 1)) = lS q p := by
  unfold lft lfl
  by_cases e : p + 1 < q.1
  · rw [if_pos e, if_pos e, lS_s ⟨hp.1, e⟩]; omega
  · rw [if_neg e, show p = q.1 - 1 by omega, lS_l (by omega)]
theorem lft_60 {q : Pc} (h : Wq q) {p k : Int} (hp : 0 ≤ p ∧ p < q.1) (hk : 1 ≤ k ∧ k ≤ q.2.1 p) : 1 ≤ lft q p k ∧ lft q p k ≤ 60 := by
  unfold lft
  rw [if_pos hp.2]
  have h0 := lS_0 h hp
  obtain ⟨j, hj⟩ : ∃ j : Nat, q.1 - 1 - p = j := ⟨(q.1 - 1 - p).toNat, by omega⟩
  have h1 := LR_sum h (j + 1) (by omega)
  have h2 : (LR q (j + 1)).1 = (LR q j).1 + q.2.1 (q.1 - 1 - j) := rfl
  rw [h2, show q.1 - 1 - (j : Int) = p by omega] at h1
  have h3 := rsum_0 (f := q.2.1) (q.1.toNat - (j + 1)) (fun r a b => by have := (h.2.1 r a (by omega)).1; omega)
  have h4 := h.2.2.2
  unfold lS at *
  rw [show (q.1 - 1 - p).toNat = j by omega] at *
  omega
