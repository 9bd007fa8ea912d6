/-! ===== a line that is read: where its head is, how many cells it has, which ===== -/
abbrev Pt : Type := Int × Int × Int × (Int → Int)
def onC (n : Int) (ce : Int → Int) (c : Int) : Bool := (List.range n.toNat).any fun k => decide (ce k = c)
theorem onC_iff {n : Int} {ce : Int → Int} {c : Int} : onC n ce c = true ↔ ∃ k, 0 ≤ k ∧ k < n ∧ ce k = c := by
  unfold onC
  rw [List.any_eq_true]
  constructor
  · rintro ⟨j, h1, h2⟩
    rw [List.mem_range] at h1
    exact ⟨j, by omega, by omega, of_decide_eq_true h2⟩
  · rintro ⟨k, h1, h2, h3⟩
    refine ⟨k.toNat, by rw [List.mem_range]; omega, ?_⟩
    rw [show ((k.toNat : Nat) : Int) = k by omega]
    exact decide_eq_true h3
theorem onC_s {n c v : Int} {ce : Int → Int} (hn : 0 ≤ n) : onC (n + 1) (up ce n v) c = (onC n ce c || decide (v = c)) := by
  rw [Bool.eq_iff_iff, Bool.or_eq_true, decide_eq_true_iff, onC_iff, onC_iff]
  constructor
  · rintro ⟨k, h1, h2, h3⟩
    by_cases q : k = n
    · rw [q, up_at] at h3; exact Or.inr h3
    · rw [up_ne q] at h3; exact Or.inl ⟨k, h1, by omega, h3⟩
  · rintro (⟨k, h1, h2, h3⟩ | h)
    · exact ⟨k, h1, by omega, by rw [up_ne (by omega)]; exact h3⟩
    · exact ⟨n, hn, by omega, by rw [up_at]; exact h⟩
def ptX (dx : Int) (q : Pt) : Int := if 0 < q.2.2.1 then q.1 + dx else q.1
def ptY (dy : Int) (q : Pt) : Int := if 0 < q.2.2.1 then q.2.1 + dy else q.2.1
def ptOk (dx dy : Int) (q : Pt) : Prop := ((0 ≤ ptX dx q ∧ ptX dx q ≤ 19) ∧ 0 ≤ ptY dy q ∧ ptY dy q ≤ 19) ∧ onC q.2.2.1 q.2.2.2 (20 * ptY dy q + ptX dx q) = false
def ptNx (dx dy : Int) (q : Pt) : Pt := (ptX dx q, ptY dy q, q.2.2.1 + 1, up q.2.2.2 q.2.2.1 (20 * ptY dy q + ptX dx q))
/-- a run of n cells goes from q to q' -/
def ptGo (dx dy : Int) : Nat → Pt → Pt
  | 0, q => q
  | n + 1, q => ptNx dx dy (ptGo dx dy n q)
def ptAll (dx dy : Int) (n : Nat) (q : Pt) : Prop := ∀ k : Nat, k < n → ptOk dx dy (ptGo dx dy k q)
/-- the bits of a row: for each cell those lines that go over it -/
def OvB (m : Mem) (r : Int) (f : Nat → Int → Bool) : Prop := ∀ c, 0 ≤ c → c < 400 → ∃ o : Nat, o < 8 ∧ m r c = o ∧ ∀ i : Nat, i < 3 → o.testBit i = f i c
theorem or_all : ∀ o : Fin 8, ∀ l : Fin 3, ∃ p : Fin 8, bOr ((o.val : Nat) : Int) (bShl 1 ((l.val : Nat) : Int)) = ((p.val : Nat) : Int) ∧ ∀ i : Fin 3, p.val.testBit i.val = (o.val.testBit i.val || decide (i.val = l.val)) := by decide +kernel
theorem OvB.at {m : Mem} {r : Int} {f : Nat → Int → Bool} (h : OvB m r f) {c : Int} {l : Nat} (hc : 0 ≤ c ∧ c < 400) (hl : l < 3) : bAnd (m r c) (bShl 1 (l : Int)) = 0 ↔ f l c = false := by
  obtain ⟨o, h1, h2, h3⟩ := h c hc.1 hc.2
  rw [h2, ← h3 l hl]
  exact bit_all ⟨o, h1⟩ ⟨l, hl⟩
theorem OvB.set {m m' : Mem} {r : Int} {f f' : Nat → Int → Bool} (h : OvB m r f) {c : Int} {l : Nat} (hc : 0 ≤ c ∧ c < 400) (hl : l < 3) (hm : m' r = ms m r c (bOr (m r c) (bShl 1 (l : Int))) r) (hf : ∀ i c', i < 3 → f' i c' = (f i c' || (decide (i = l) && decide (c' = c)))) : OvB m' r f' := by
  intro c' a b
  by_cases q : c' = c
  · subst q
    obtain ⟨o, h1, h2, h3⟩ := h c' a b
    obtain ⟨p, p1, p2⟩ := or_all ⟨o, h1⟩ ⟨l, hl⟩
    refine ⟨p.val, p.isLt, ?_, fun i hi => ?_⟩
    · rw [hm, ms_at, h2]; exact p1
    · have := p2 ⟨i, hi⟩
      simp only at this
      rw [this, hf i c' hi, h3 i hi]
      simp
  · obtain ⟨o, h1, h2, h3⟩ := h c' a b
    refine ⟨o, h1, ?_, fun i hi => ?_⟩
    · rw [hm, ms_y q]; exact h2
    · rw [h3 i hi, hf i c' hi]
      simp [q]
