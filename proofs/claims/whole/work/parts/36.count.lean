/-! ===== counting ===== -/
theorem rsum_s {f : Int → Int} {k : Int} (h : 0 ≤ k) : rsum f (k + 1).toNat = rsum f k.toNat + f k := by
  obtain ⟨n, rfl⟩ := Int.eq_ofNat_of_zero_le h
  rw [show ((n : Int) + 1).toNat = n + 1 by omega, show ((n : Int)).toNat = n by omega]
  rfl
theorem rsum_c {f f' : Int → Int} : ∀ n : Nat, (∀ r : Int, 0 ≤ r → r < n → f r = f' r) → rsum f n = rsum f' n
  | 0, _ => rfl
  | n + 1, h => by
    have h1 := rsum_c n (fun r a b => h r a (by omega))
    have h2 := h n (by omega) (by omega)
    unfold rsum
    rw [h1, h2]
theorem rsum_p {f f' : Int → Int} : ∀ n : Nat, rsum (fun r => f r + f' r) n = rsum f n + rsum f' n
  | 0 => rfl
  | n + 1 => by
    unfold rsum
    rw [rsum_p n]
    omega
theorem rsum_1 : ∀ n : Nat, rsum (fun _ => 1) n = n
  | 0 => rfl
  | n + 1 => by
    unfold rsum
    rw [rsum_1 n]
    omega
theorem rsum_01 {f : Int → Int} (n : Nat) (h : ∀ r : Int, 0 ≤ r → r < n → 0 ≤ f r ∧ f r ≤ 1) : 0 ≤ rsum f n ∧ rsum f n ≤ n := by
  have a := rsum_0 (f := f) n (fun r a b => (h r a b).1)
  have b := rsum_le (f := f) (c := 1) n (fun r a b => (h r a b).2)
  omega
def b01 (b : Bool) : Int := if b then 1 else 0
theorem b01_r (b : Bool) : 0 ≤ b01 b ∧ b01 b ≤ 1 := by cases b <;> decide
/-- whether a line goes over a cell -/
def onB (d : Dt) (i c : Int) : Bool := (List.range (dn d i).toNat).any fun k => decide (dc d i k = c)
theorem onB_iff {d : Dt} {i c : Int} : onB d i c = true ↔ ∃ k, 0 ≤ k ∧ k < dn d i ∧ dc d i k = c := by
  unfold onB
  rw [List.any_eq_true]
  constructor
  · rintro ⟨n, h1, h2⟩
    rw [List.mem_range] at h1
    exact ⟨n, by omega, by omega, of_decide_eq_true h2⟩
  · rintro ⟨k, h1, h2, h3⟩
    refine ⟨k.toNat, by rw [List.mem_range]; omega, ?_⟩
    rw [show ((k.toNat : Nat) : Int) = k by omega]
    exact decide_eq_true h3
theorem tX11_isOn {g : Shp} {m : Mem} {i c : Int} (hw : WPl (dt m)) (hi : 0 ≤ i ∧ i < dl (dt m)) : T (eX11_isOn g i c m) (fun q => q = (b01 (onB (dt m) i c), m)) := by
  have hl := hw.1.2
  have hn := (hw.2.2 i hi.1 hi.2).mx
  have e255 : m 255 i = dn (dt m) i := rfl
  have e256 : ∀ k, m 256 (60 * i + k) = dc (dt m) i k := fun k => rfl
  unfold eX11_isOn ebX11_isOn_0
  refine T_bdl (Q := fun q => q.2.2.2 = m ∧ q.2.1 = b01 (onB (dt m) i c))
    (iter2 (fun z k m' => m' = m ∧ 0 ≤ k ∧ k ≤ dn (dt m) i ∧ (z = 0 ∧ (∀ j, 0 ≤ j → j < k → dc (dt m) i j ≠ c) ∨ z = 1 ∧ ∃ j, 0 ≤ j ∧ j < k ∧ dc (dt m) i j = c)) (fun _ k => (60 - k).toNat)
      ⟨rfl, by decide, by omega, Or.inl ⟨rfl, fun j a b => by omega⟩⟩ (by decide) ?_) ?_
  · rintro z k m' ⟨rfl, h1, h2, h3⟩
    unfold eBX11_isOn_5 ebX11_isOn_5
    simp only
    rw [e255]
    refine T_ck ⟨by omega, by omega⟩ (T_if (fun hc => T_out (by decide) ⟨rfl, ?_⟩) (fun hc => ?_))
    · simp only
      rcases h3 with ⟨hz, h3⟩ | ⟨hz, j, a, b, e⟩
      · rw [show onB (dt m') i c = false by
          rw [← Bool.not_eq_true, onB_iff]
          rintro ⟨j, a, b, e⟩
          exact h3 j a (by omega) e]
        exact hz
      · rw [show onB (dt m') i c = true from onB_iff.mpr ⟨j, a, by omega, e⟩]
        exact hz
    · simp (disch := omega) only [w32_id]
      have one : T (ebX11_isOn_41 g i c k 1 m') (G (fun q => (fun (z k : Int) (m'_1 : Mem) => m'_1 = m' ∧ 0 ≤ k ∧ k ≤ dn (dt m') i ∧ (z = 0 ∧ (∀ j, 0 ≤ j → j < k → dc (dt m') i j ≠ c) ∨ z = 1 ∧ ∃ j, 0 ≤ j ∧ j < k ∧ dc (dt m') i j = c)) q.1 q.2.1 q.2.2) (fun q => (fun (_ k : Int) => (60 - k).toNat) q.1 q.2.1) ((fun (_ k : Int) => (60 - k).toNat) z k) (fun q => q.2.2.2 = m' ∧ q.2.1 = b01 (onB (dt m') i c))) ∨ ¬ (z = 1 ∨ dc (dt m') i k = c) := by
        by_cases hh : z = 1 ∨ dc (dt m') i k = c
        · left
          unfold ebX11_isOn_41
          rw [w32_id (by omega) (by omega)]
          refine T_vv (T_go ⟨rfl, by simp only; omega, by simp only; omega, Or.inr ⟨rfl, ?_⟩⟩ (by simp only; omega))
          simp only
          rcases h3 with ⟨hz, h3⟩ | ⟨hz, j, a, b, e⟩
          · exact ⟨k, h1, by omega, hh.resolve_left (by omega)⟩
          · exact ⟨j, a, by omega, e⟩
        · exact Or.inr hh
      refine T_if (fun hz => T_ck ⟨by omega, by omega⟩ ?_) (fun hz => ?_)
      · rw [e256]
        refine T_if (fun he => one.resolve_right (fun q => q (Or.inr he))) (fun he => ?_)
        unfold ebX11_isOn_41
        rw [w32_id (by omega) (by omega)]
        refine T_vv (T_go ⟨rfl, by simp only; omega, by simp only; omega, Or.inl ⟨rfl, fun j a b => ?_⟩⟩ (by simp only; omega))
        simp only at b
        rcases h3 with ⟨_, h3⟩ | ⟨hz2, _⟩
        · by_cases q : j = k
          · rw [q]; exact he
          · exact h3 j a (by omega)
        · omega
      · refine one.resolve_right (fun q => q (Or.inl ?_))
        rcases h3 with ⟨hz2, _⟩ | ⟨hz2, _⟩
        · exact absurd hz2 hz
        · exact hz2
  · rintro r ⟨z, k, m'⟩ ⟨h1, h2⟩
    simp only at h1 h2
    subst h1
    unfold ebX11_isOn_48
    dsimp only
    rw [h2]
    refine T_ck ?_ (T_some rfl)
    cases onB (dt m') i c
    · exact Or.inl rfl
    · exact Or.inr rfl
/-! ===== bits ===== -/
theorem bit_all : ∀ o : Fin 8, ∀ i : Fin 3, (bAnd ((o.val : Nat) : Int) (bShl 1 ((i.val : Nat) : Int)) = 0 ↔ o.val.testBit i.val = false) := by decide +kernel
def pcn (x0 : Int) : Int :=
  let y1 := w32 (x0 - (bAnd (bUshr x0 1) 1431655765))
  let y2 := w32 ((bAnd y1 858993459) + (bAnd (bUshr y1 2) 858993459))
  let y3 := bAnd (w32 (y2 + (bUshr y2 4))) 252645135
  let y4 := w32 (y3 + (bUshr y3 8))
  let y5 := w32 (y4 + (bUshr y4 16))
  bAnd y5 63
theorem pcn_all : ∀ o : Fin 8, pcn ((o.val : Nat) : Int) = b01 (o.val.testBit 0) + b01 (o.val.testBit 1) + b01 (o.val.testBit 2) := by decide +kernel
theorem tJ6_bitCount {g : Shp} {m : Mem} {x : Int} : T (eJ6_bitCount_0f7a4 g x m) (fun q => q = (pcn x, m)) := ⟨_, rfl, rfl⟩
/-- over how many lines a cell lies, by the program's row -/
theorem over_onB {m : Mem} {P : Int} {d : Dt} (hl : 1 ≤ dl d ∧ dl d ≤ 3) (h : IPl m P d) {c : Int} (hc : 0 ≤ c ∧ c < 400) :
    pcn (m (P + 4) c) = rsum (fun i => b01 (onB d i c)) (dl d).toNat ∧ ∀ i, 0 ≤ i → i < dl d → (bAnd (m (P + 4) c) (bShl 1 i) = 0 ↔ onB d i c = false) := by
  obtain ⟨o, h1, h2, h3⟩ := h.2.2.2 c hc.1 hc.2
  have hb : ∀ i : Nat, i < 3 → (i : Int) < dl d → o.testBit i = onB d i c := fun i a b => by
    have := h3 i a
    rw [← onB_iff] at this
    by_cases q : o.testBit i = true
    · rw [q, (this.mp q).2]
    · have q2 : o.testBit i = false := by simpa using q
      rw [q2]
      by_cases r : onB d i c = true
      · exact absurd (this.mpr ⟨b, r⟩) q
      · simpa using (by simpa using r : onB d i c = false).symm
  have hz : ∀ i : Nat, i < 3 → ¬ (i : Int) < dl d → o.testBit i = false := fun i a b => by
    by_cases q : o.testBit i = true
    · exact absurd ((h3 i a).mp q).1 b
    · simpa using q
  refine ⟨?_, fun i a b => ?_⟩
  · rw [h2, pcn_all ⟨o, h1⟩]
    simp only
    rcases (show dl d = 1 ∨ dl d = 2 ∨ dl d = 3 by omega) with e | e | e
    · rw [hb 0 (by decide) (by omega), hz 1 (by decide) (by omega), hz 2 (by decide) (by omega), e]
      show _ = 0 + b01 (onB d 0 c)
      simp [b01]
    · rw [hb 0 (by decide) (by omega), hb 1 (by decide) (by omega), hz 2 (by decide) (by omega), e]
      show _ = 0 + b01 (onB d 0 c) + b01 (onB d 1 c)
      simp [b01]
    · rw [hb 0 (by decide) (by omega), hb 1 (by decide) (by omega), hb 2 (by decide) (by omega), e]
      show _ = 0 + b01 (onB d 0 c) + b01 (onB d 1 c) + b01 (onB d 2 c)
      simp
  · obtain ⟨n, rfl⟩ := Int.eq_ofNat_of_zero_le a
    rw [h2, bit_all ⟨o, h1⟩ ⟨n, by omega⟩]
    simp only
    rw [hb n (by omega) b]
