/-! ===== what is left of a line costs at the least: pure ===== -/
abbrev Bg : Type := Int × Int × Int
def bg (b : Bg) (s : Int) : Int := if s = 0 then b.1 else if s = 1 then b.2.1 else b.2.2
def bdc (b : Bg) (s : Int) : Bg := if s = 0 then (b.1 - 1, b.2.1, b.2.2) else if s = 1 then (b.1, b.2.1 - 1, b.2.2) else (b.1, b.2.1, b.2.2 - 1)
def bsum (b : Bg) : Int := b.1 + b.2.1 + b.2.2
def ble (b b' : Bg) : Prop := b.1 ≤ b'.1 ∧ b.2.1 ≤ b'.2.1 ∧ b.2.2 ≤ b'.2.2
def bok (b : Bg) : Prop := (0 ≤ b.1 ∧ b.1 ≤ 6) ∧ (0 ≤ b.2.1 ∧ b.2.1 ≤ 6) ∧ 0 ≤ b.2.2 ∧ b.2.2 ≤ 6
/-- sizes, joint, cells left of the piece, is it bent there -/
abbrev En : Type := (Int → Int) × Int × (Int → Int) × (Int → Int)
def ez (e : En) : Int → Int := e.1
def ej (e : En) : Int := e.2.1
def el (e : En) : Int → Int := e.2.2.1
def eb (e : En) : Int → Int := e.2.2.2
def asl (e : En) (x len s : Int) : Prop := len = el e x ∧ eb e x ≠ 0 ∧ ¬ (s = 0 ∧ len = ez e 0)
def vld (e : En) (x : Int) (b : Bg) (len s : Int) : Prop := ((0 ≤ s ∧ s ≤ 2) ∧ 1 ≤ len) ∧ 0 < bg b s ∧ len ≤ ez e s ∧ (len = el e x ∨ len + ej e < el e x)
def aft (e : En) (x len : Int) : Int := if len = el e x then x - len else x - len - ej e
noncomputable def own (e : En) (x len s : Int) : Int := (if len < ez e s then 32 else 0) + (@ite _ (asl e x len s) (Classical.propDecidable _) 32 0) + 1
def pl (v o : Int) : Int := if v = 1000000 then 1000000 else v + o
noncomputable def cnd (e : En) (T : Int → Bg → Int) (x : Int) (b : Bg) (q : Int × Int) : Int := @ite _ (vld e x b q.1 q.2) (Classical.propDecidable _) (pl (T (aft e x q.1) (bdc b q.2)) (own e x q.1 q.2)) 1000000
def prs : List (Int × Int) := [(1, 0), (1, 1), (1, 2), (2, 0), (2, 1), (2, 2), (3, 0), (3, 1), (3, 2), (4, 0), (4, 1), (4, 2), (5, 0), (5, 1), (5, 2), (6, 0), (6, 1), (6, 2), (7, 0), (7, 1), (7, 2), (8, 0), (8, 1), (8, 2), (9, 0), (9, 1), (9, 2)]
def lmin : List Int → Int
  | [] => 1000000
  | v :: L => if v < lmin L then v else lmin L
theorem lmin_le {v : Int} : ∀ {L : List Int}, v ∈ L → lmin L ≤ v
  | [], h => absurd h (by simp)
  | w :: L, h => by
    unfold lmin
    rcases List.mem_cons.mp h with e | e
    · rw [e]; split <;> omega
    · have := lmin_le e
      split <;> omega
theorem lmin_in : ∀ L : List Int, lmin L = 1000000 ∨ lmin L ∈ L
  | [] => Or.inl rfl
  | w :: L => by
    unfold lmin
    split
    · exact Or.inr (List.mem_cons_self ..)
    · rcases lmin_in L with e | e
      · exact Or.inl e
      · exact Or.inr (List.mem_cons_of_mem _ e)
noncomputable def lst (e : En) (T : Int → Bg → Int) (x : Int) (b : Bg) : Int := lmin (prs.map (cnd e T x b))
noncomputable def Ct (e : En) : Nat → Int → Bg → Int
  | 0 => fun _ _ => 0
  | n + 1 => fun x b => if x ≤ n then Ct e n x b else lst e (Ct e n) (n + 1) b
noncomputable def Cw (e : En) (x : Int) (b : Bg) : Int := Ct e x.toNat x b
theorem Ct_s {e : En} : ∀ (n : Nat) (x : Int) (b : Bg), x ≤ n → Ct e n x b = Cw e x b := by
  intro n
  induction n with
  | zero =>
    intro x b h
    unfold Cw
    rw [show x.toNat = 0 by omega]
  | succ n ih =>
    intro x b h
    by_cases q : x ≤ n
    · show (if x ≤ (n : Int) then Ct e n x b else _) = _
      rw [if_pos q]; exact ih x b q
    · unfold Cw
      rw [show x.toNat = n + 1 by omega]
theorem Cw_0 {e : En} {x : Int} {b : Bg} (h : x ≤ 0) : Cw e x b = 0 := by
  unfold Cw
  rw [show x.toNat = 0 by omega]
  rfl
theorem prs_in {len s : Int} (h : 1 ≤ len ∧ len ≤ 9) (hs : 0 ≤ s ∧ s ≤ 2) : (len, s) ∈ prs := by
  have h1 : len = 1 ∨ len = 2 ∨ len = 3 ∨ len = 4 ∨ len = 5 ∨ len = 6 ∨ len = 7 ∨ len = 8 ∨ len = 9 := by omega
  have h2 : s = 0 ∨ s = 1 ∨ s = 2 := by omega
  rcases h1 with e | e | e | e | e | e | e | e | e <;> rcases h2 with f | f | f <;> rw [e, f] <;> decide
/-- sizes and joints as they can be -/
def Eok (e : En) : Prop := (1 ≤ ez e 0 ∧ ez e 0 < ez e 1 ∧ ez e 1 < ez e 2 ∧ ez e 2 ≤ 9) ∧ 0 ≤ ej e ∧ ej e ≤ 2
theorem Eok.z {e : En} (h : Eok e) {s : Int} (hs : 0 ≤ s ∧ s ≤ 2) : 1 ≤ ez e s ∧ ez e s ≤ 9 := by
  have := h.1
  rcases (show s = 0 ∨ s = 1 ∨ s = 2 by omega) with q | q | q <;> rw [q] <;> omega
theorem aft_lt {e : En} (h : Eok e) {x len s : Int} {b : Bg} (hv : vld e x b len s) : aft e x len < x := by
  have := hv.1
  have := h.2
  unfold aft
  split <;> omega
theorem Cw_le {e : En} (h : Eok e) {x len s : Int} {b : Bg} (hx : 0 < x) (hv : vld e x b len s) : Cw e x b ≤ pl (Cw e (aft e x len) (bdc b s)) (own e x len s) := by
  have ha := aft_lt h hv
  have hz := h.z hv.1.1
  have hl : 1 ≤ len ∧ len ≤ 9 := ⟨hv.1.2, by have := hv.2.2.1; omega⟩
  obtain ⟨n, hn⟩ : ∃ n : Nat, x = n + 1 := ⟨(x - 1).toNat, by omega⟩
  have e1 : Cw e x b = lst e (Ct e n) x b := by
    unfold Cw
    rw [show x.toNat = n + 1 by omega]
    show (if x ≤ (n : Int) then _ else lst e (Ct e n) (n + 1) b) = _
    rw [if_neg (by omega), hn]
  rw [e1]
  have e2 : cnd e (Ct e n) x b (len, s) = pl (Cw e (aft e x len) (bdc b s)) (own e x len s) := by
    unfold cnd
    rw [if_pos hv, Ct_s n _ _ (by dsimp only; omega)]
  rw [← e2]
  exact lmin_le (List.mem_map_of_mem (prs_in hl hv.1.1))
theorem Cw_at {e : En} (h : Eok e) {x : Int} {b : Bg} (hx : 0 < x) : Cw e x b = 1000000 ∨ ∃ len s, vld e x b len s ∧ Cw e x b = pl (Cw e (aft e x len) (bdc b s)) (own e x len s) := by
  obtain ⟨n, hn⟩ : ∃ n : Nat, x = n + 1 := ⟨(x - 1).toNat, by omega⟩
  have e1 : Cw e x b = lst e (Ct e n) x b := by
    unfold Cw
    rw [show x.toNat = n + 1 by omega]
    show (if x ≤ (n : Int) then _ else lst e (Ct e n) (n + 1) b) = _
    rw [if_neg (by omega), hn]
  rw [e1]
  unfold lst
  rcases lmin_in (prs.map (cnd e (Ct e n) x b)) with q | q
  · exact Or.inl q
  · obtain ⟨⟨len, s⟩, q1, q2⟩ := List.mem_map.mp q
    rw [← q2]
    by_cases hv : vld e x b len s
    · have ha := aft_lt h hv
      refine Or.inr ⟨len, s, hv, ?_⟩
      unfold cnd
      rw [if_pos hv, Ct_s n _ _ (by dsimp only; omega)]
    · left
      unfold cnd
      rw [if_neg hv]
theorem own_r (e : En) (x len s : Int) : 1 ≤ own e x len s ∧ own e x len s ≤ 65 := by
  unfold own
  split <;> split <;> omega
theorem own_m (e : En) (x len s : Int) : ∃ c : Int, 0 ≤ c ∧ c ≤ 2 ∧ own e x len s = 32 * c + 1 := by
  unfold own
  split <;> split
  · exact ⟨2, by decide, by decide, by decide⟩
  · exact ⟨1, by decide, by decide, by decide⟩
  · exact ⟨1, by decide, by decide, by decide⟩
  · exact ⟨0, by decide, by decide, by decide⟩
theorem bdc_sum {b : Bg} {s : Int} : bsum (bdc b s) = bsum b - 1 := by
  unfold bsum bdc
  split
  · dsimp only; omega
  · split <;> dsimp only <;> omega
theorem bdc_ok {b : Bg} {s : Int} (h : bok b) (hs : 0 < bg b s) : bok (bdc b s) := by
  obtain ⟨h1, h2, h3⟩ := h
  unfold bg at hs
  unfold bok bdc
  by_cases e0 : s = 0
  · rw [if_pos e0] at hs ⊢; dsimp only; exact ⟨by omega, h2, h3⟩
  · rw [if_neg e0] at hs ⊢
    by_cases e1 : s = 1
    · rw [if_pos e1] at hs ⊢; dsimp only; exact ⟨h1, by omega, h3⟩
    · rw [if_neg e1] at hs ⊢; dsimp only; exact ⟨h1, h2, by omega⟩
theorem bok_s {b : Bg} (h : bok b) : 0 ≤ bsum b ∧ bsum b ≤ 18 := by
  unfold bok at h
  unfold bsum
  omega
/-- a cost is none, or no more than 65 for each stone that the bag has -/
theorem Cw_r {e : En} (h : Eok e) : ∀ (n : Nat) (x : Int) (b : Bg), x.toNat ≤ n → bok b → Cw e x b = 1000000 ∨ 0 ≤ Cw e x b ∧ Cw e x b ≤ 65 * bsum b := by
  intro n
  induction n with
  | zero =>
    intro x b hx hb
    rw [Cw_0 (by omega)]
    have := bok_s hb
    right; omega
  | succ n ih =>
    intro x b hx hb
    by_cases q : x ≤ 0
    · rw [Cw_0 q]
      have := bok_s hb
      right; omega
    · rcases Cw_at h (x := x) (b := b) (by omega) with e1 | ⟨len, s, hv, e1⟩
      · exact Or.inl e1
      · have ha := aft_lt h hv
        rcases ih (aft e x len) (bdc b s) (by omega) (bdc_ok hb hv.2.1) with e2 | e2
        · left; rw [e1, e2]; rfl
        · rw [e1]
          have ho := own_r e x len s
          rw [bdc_sum] at e2
          right
          unfold pl
          have := bok_s hb
          rw [if_neg (by omega)]
          omega
theorem Cw_rr {e : En} (h : Eok e) {x : Int} {b : Bg} (hb : bok b) : Cw e x b = 1000000 ∨ 0 ≤ Cw e x b ∧ Cw e x b ≤ 65 * bsum b := Cw_r h x.toNat x b (Nat.le_refl _) hb
theorem Cw_top {e : En} (h : Eok e) {x : Int} {b : Bg} (hb : bok b) : 0 ≤ Cw e x b ∧ Cw e x b ≤ 1000000 := by
  have := bok_s hb
  rcases Cw_rr h (x := x) hb with e | e <;> omega
def vb (v : Int) : Prop := v = 1000000 ∨ 0 ≤ v ∧ v ≤ 1170
theorem Cw_vb {e : En} (h : Eok e) {x : Int} {b : Bg} (hb : bok b) : vb (Cw e x b) := by
  have := bok_s hb
  rcases Cw_rr h (x := x) hb with q | q
  · exact Or.inl q
  · exact Or.inr (by omega)
theorem pl_mo {v w o p : Int} (hv : vb v) (hw : vb w) (h : v ≤ w) (ho : 0 ≤ o ∧ o ≤ p ∧ p ≤ 10000) : pl v o ≤ pl w p := by
  unfold vb at hv hw
  unfold pl
  split <;> split <;> omega
theorem bdc_mo {b b' : Bg} {s : Int} (h : ble b b') : ble (bdc b s) (bdc b' s) := by
  unfold ble at *
  unfold bdc
  split
  · dsimp only; omega
  · split <;> dsimp only <;> omega
theorem bg_mo {b b' : Bg} {s : Int} (h : ble b b') : bg b s ≤ bg b' s := by
  unfold ble at h
  unfold bg
  split
  · omega
  · split <;> omega
/-- a larger bag costs no more -/
theorem Cw_mo {e : En} (h : Eok e) : ∀ (n : Nat) (x : Int) (b b' : Bg), x.toNat ≤ n → bok b → bok b' → ble b b' → Cw e x b' ≤ Cw e x b := by
  intro n
  induction n with
  | zero =>
    intro x b b' hx _ _ _
    rw [Cw_0 (by omega), Cw_0 (by omega)]
    exact Int.le_refl _
  | succ n ih =>
    intro x b b' hx hb hb' hl
    by_cases q : x ≤ 0
    · rw [Cw_0 q, Cw_0 q]
      exact Int.le_refl _
    · rcases Cw_at h (x := x) (b := b) (by omega) with e1 | ⟨len, s, hv, e1⟩
      · rw [e1]; exact (Cw_top h hb').2
      · have ha := aft_lt h hv
        have hg := bg_mo (s := s) hl
        have hv' : vld e x b' len s := ⟨hv.1, by have := hv.2.1; omega, hv.2.2⟩
        have h1 := Cw_le h (by omega) hv'
        have h2 := ih (aft e x len) (bdc b s) (bdc b' s) (by omega) (bdc_ok hb hv.2.1) (bdc_ok hb' hv'.2.1) (bdc_mo hl)
        rw [e1]
        have ho := own_r e x len s
        exact Int.le_trans h1 (pl_mo (Cw_vb h (bdc_ok hb' hv'.2.1)) (Cw_vb h (bdc_ok hb hv.2.1)) h2 ⟨by omega, Int.le_refl _, by omega⟩)
theorem Cw_mono {e : En} (h : Eok e) {x : Int} {b b' : Bg} (hb : bok b) (hb' : bok b') (hl : ble b b') : Cw e x b' ≤ Cw e x b := Cw_mo h x.toNat x b b' (Nat.le_refl _) hb hb' hl
