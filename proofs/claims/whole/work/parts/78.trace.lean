/-! ===== the way, stone by stone: pure ===== -/
def Good (e : En) (x : Int) (b : Bg) (len s : Int) : Prop := vld e x b len s ∧ pl (Cw e (aft e x len) (bdc b s)) (own e x len s) = Cw e x b
/-- the first stone: the longest that may be, of the least size -/
def FS (e : En) (x : Int) (b : Bg) (p : Int × Int) : Prop := Good e x b p.1 p.2 ∧ (∀ len s, Good e x b len s → len ≤ p.1) ∧ ∀ s, Good e x b p.1 s → p.2 ≤ s
noncomputable def fs (e : En) (x : Int) (b : Bg) : Int × Int := Classical.epsilon (FS e x b)
theorem FS_eq {e : En} {x : Int} {b : Bg} {p : Int × Int} (h : FS e x b p) : fs e x b = p := by
  have h2 : FS e x b (fs e x b) := Classical.epsilon_spec ⟨p, h⟩
  have e1 : (fs e x b).1 = p.1 := Int.le_antisymm (h.2.1 _ _ h2.1) (h2.2.1 _ _ h.1)
  have e2 : (fs e x b).2 = p.2 := by
    refine Int.le_antisymm (h2.2.2 _ ?_) (h.2.2 _ ?_)
    · rw [e1]; exact h.1
    · rw [← e1]; exact h2.1
  exact Prod.ext e1 e2
/-- of so many numbers the largest that is so -/
theorem ex_max {P : Int → Prop} : ∀ n : Nat, (∃ x, P x ∧ 1 ≤ x ∧ x ≤ n) → ∃ x, P x ∧ 1 ≤ x ∧ x ≤ n ∧ ∀ y, P y → y ≤ n → y ≤ x
  | 0, ⟨x, _, h1, h2⟩ => by omega
  | n + 1, ⟨x, hx, h1, h2⟩ => by
    by_cases h : P ((n : Int) + 1)
    · exact ⟨n + 1, h, by omega, by omega, fun y _ hy => by omega⟩
    · have : x ≠ (n : Int) + 1 := fun e => h (e ▸ hx)
      obtain ⟨z, z1, z2, z3, z4⟩ := ex_max n ⟨x, hx, h1, by omega⟩
      refine ⟨z, z1, z2, by omega, fun y hy hn => ?_⟩
      by_cases e : y = (n : Int) + 1
      · exact absurd (e ▸ hy) h
      · exact z4 y hy (by omega)
theorem FS_ex {e : En} (he : Eok e) {x : Int} {b : Bg} (hx : 0 < x) (hC : Cw e x b ≠ 1000000) : FS e x b (fs e x b) := by
  refine Classical.epsilon_spec (p := FS e x b) ?_
  obtain ⟨len0, s0, hv0, e0⟩ := (Cw_at he (b := b) hx).resolve_left hC
  have r : ∀ len s, Good e x b len s → (1 ≤ len ∧ len ≤ 9) ∧ 0 ≤ s ∧ s ≤ 2 := by
    intro len s h
    have := he.z h.1.1.1
    have := h.1.2.2.1
    exact ⟨⟨h.1.1.2, by omega⟩, h.1.1.1⟩
  have g0 : Good e x b len0 s0 := ⟨hv0, e0.symm⟩
  obtain ⟨len, ⟨s, hs⟩, l1, l2, l3⟩ := ex_max (P := fun len => ∃ s, Good e x b len s) 9 ⟨len0, ⟨s0, g0⟩, (r _ _ g0).1.1, (r _ _ g0).1.2⟩
  have l4 : ∀ len' s', Good e x b len' s' → len' ≤ len := fun len' s' h => l3 len' ⟨s', h⟩ (r _ _ h).1.2
  by_cases h0 : Good e x b len 0
  · exact ⟨(len, 0), h0, l4, fun s' h => (r _ _ h).2.1⟩
  · by_cases h1 : Good e x b len 1
    · refine ⟨(len, 1), h1, l4, fun s' h => ?_⟩
      have h2 := (r _ _ h).2
      by_cases q : s' = 0
      · exact absurd (q ▸ h) h0
      · dsimp only; omega
    · refine ⟨(len, s), hs, l4, fun s' h => ?_⟩
      have h2 := (r _ _ h).2
      have h3 := (r _ _ hs).2
      by_cases q : s' = 0
      · exact absurd (q ▸ h) h0
      · by_cases q1 : s' = 1
        · exact absurd (q1 ▸ h) h1
        · dsimp only; omega
/-- how many stones: what a cost leaves behind 32 -/
theorem Cw_m {e : En} (he : Eok e) : ∀ (n : Nat) (x : Int) (b : Bg), x.toNat ≤ n → bok b → Cw e x b ≠ 1000000 → Cw e x b % 32 ≤ bsum b ∧ (0 < x → 1 ≤ Cw e x b % 32) := by
  intro n
  induction n with
  | zero =>
    intro x b hx hb hC
    rw [Cw_0 (by omega)]
    have := bok_s hb
    exact ⟨by omega, fun h => by omega⟩
  | succ n ih =>
    intro x b hx hb hC
    have hs := bok_s hb
    by_cases q : x ≤ 0
    · rw [Cw_0 q]
      exact ⟨by omega, fun h => by omega⟩
    · obtain ⟨len, s, hv, e1⟩ := (Cw_at he (x := x) (b := b) (by omega)).resolve_left hC
      have ha := aft_lt he hv
      have hbd := bdc_ok hb hv.2.1
      have hN : Cw e (aft e x len) (bdc b s) ≠ 1000000 := by
        intro q1
        rw [q1] at e1
        exact hC e1
      have h1 := (ih (aft e x len) (bdc b s) (by omega) hbd hN).1
      obtain ⟨c, c0, c1, c2⟩ := own_m e x len s
      unfold pl at e1
      rw [if_neg hN] at e1
      have hr := Cw_rr he (x := aft e x len) hbd
      rw [bdc_sum] at h1
      rw [e1, c2]
      omega
noncomputable def tr (e : En) (x : Int) (b : Bg) : Nat → Int × Bg
  | 0 => (x, b)
  | n + 1 => (aft e (tr e x b n).1 (fs e (tr e x b n).1 (tr e x b n).2).1, bdc (tr e x b n).2 (fs e (tr e x b n).1 (tr e x b n).2).2)
noncomputable def stn (e : En) (x : Int) (b : Bg) (n : Nat) : Int × Int := fs e (tr e x b n).1 (tr e x b n).2
theorem tr_s (e : En) (x : Int) (b : Bg) (n : Nat) : tr e x b (n + 1) = (aft e (tr e x b n).1 (stn e x b n).1, bdc (tr e x b n).2 (stn e x b n).2) := rfl
/-- a place in a line's pieces -/
def Pos (q : Pc) (x p k : Int) : Prop := x = lft q p k ∧ 0 ≤ p ∧ p ≤ q.1 ∧ (p < q.1 → 1 ≤ k ∧ k ≤ q.2.1 p) ∧ (p = q.1 → k = 0)
theorem Pos.x {q : Pc} (hq : Wq q) {x p k : Int} (h : Pos q x p k) : 0 ≤ x ∧ x ≤ 60 ∧ (0 < x ↔ p < q.1) := by
  obtain ⟨h1, h2, h3, h4, h5⟩ := h
  by_cases hp : p < q.1
  · have := lft_60 hq ⟨h2, hp⟩ (h4 hp)
    rw [← h1] at this
    exact ⟨by omega, by omega, ⟨fun _ => hp, fun _ => by omega⟩⟩
  · unfold lft at h1
    rw [if_neg hp] at h1
    exact ⟨by omega, by omega, ⟨fun _ => by omega, fun h => absurd h hp⟩⟩
theorem Pos.e {q : Pc} (hq : Wq q) {x p k : Int} {z : Int → Int} {J : Int} (h : Pos q x p k) (hp : p < q.1) : el (enQ z J q) x = k ∧ eb (enQ z J q) x = q.2.2.1 p := by
  obtain ⟨h1, h2, h3, h4, h5⟩ := h
  have hk := h4 hp
  have := Pce_q hq (z := z) (J := J) ⟨h2, hp⟩ k.toNat (by omega) (by omega)
  have hb := hq.2.2.1 p h2 hp
  rw [show ((k.toNat : Nat) : Int) = k by omega, show (((q.2.2.1 p).toNat : Nat) : Int) = q.2.2.1 p by omega] at this
  unfold lft at h1
  rw [if_pos hp] at h1
  rw [h1]
  exact this
/-- where the next stone begins -/
theorem Pos.nx {q : Pc} (hq : Wq q) {x p k : Int} {z : Int → Int} {J len s : Int} {b : Bg} (hJ : 0 ≤ J) (h : Pos q x p k) (hp : p < q.1) (hv : vld (enQ z J q) x b len s) : (len = k ∧ Pos q (aft (enQ z J q) x len) (p + 1) (lfl q (p + 1))) ∨ (len ≠ k ∧ len + J < k ∧ Pos q (aft (enQ z J q) x len) p (k - len - J)) := by
  have he := h.e hq (z := z) (J := J) hp
  obtain ⟨h1, h2, h3, h4, h5⟩ := id h
  have hk := h4 hp
  obtain ⟨⟨v1, v2⟩, v3, v4, v5⟩ := hv
  rw [he.1] at v5
  have ej0 : ej (enQ z J q) = J := rfl
  rw [ej0] at v5
  unfold aft
  rw [he.1, ej0]
  have hx : x = lS q p + k := by rw [h1]; unfold lft; rw [if_pos hp]
  by_cases q1 : len = k
  · left
    rw [if_pos q1]
    refine ⟨q1, ?_, by omega, by omega, fun hh => ?_, fun hh => ?_⟩
    · rw [lft_next ⟨h2, hp⟩]; omega
    · unfold lfl; rw [if_pos hh]
      have := hq.2.1 (p + 1) (by omega) hh
      omega
    · unfold lfl; rw [if_neg (by omega)]
  · right
    rw [if_neg q1]
    refine ⟨q1, by omega, ?_, h2, h3, fun _ => by omega, fun hh => by omega⟩
    unfold lft
    rw [if_pos hp]
    omega
/-- the whole trace -/
theorem tr_all {q : Pc} (hq : Wq q) {z : Int → Int} {J : Int} (he : Eok (enQ z J q)) {x : Int} {b : Bg} (hb : bok b) {p k : Int} (hP : Pos q x p k) (hC : Cw (enQ z J q) x b ≠ 1000000) : ∀ n : Nat, (n : Int) ≤ Cw (enQ z J q) x b % 32 →
    (∃ p' k', Pos q (tr (enQ z J q) x b n).1 p' k') ∧ bok (tr (enQ z J q) x b n).2 ∧ Cw (enQ z J q) (tr (enQ z J q) x b n).1 (tr (enQ z J q) x b n).2 ≠ 1000000 ∧ Cw (enQ z J q) (tr (enQ z J q) x b n).1 (tr (enQ z J q) x b n).2 % 32 = Cw (enQ z J q) x b % 32 - n := by
  intro n
  induction n with
  | zero =>
    intro _
    exact ⟨⟨p, k, hP⟩, hb, hC, by show Cw (enQ z J q) x b % 32 = _; omega⟩
  | succ n ih =>
    intro hn
    obtain ⟨⟨p', k', h1⟩, h2, h3, h4⟩ := ih (by omega)
    rw [tr_s]
    generalize hx' : (tr (enQ z J q) x b n).1 = x' at *
    generalize hb' : (tr (enQ z J q) x b n).2 = b' at *
    have hxx := h1.x hq
    have hpos : 0 < x' := by
      by_cases q1 : 0 < x'
      · exact q1
      · rw [Cw_0 (by omega)] at h4
        omega
    have hf := FS_ex he hpos h3
    have es : stn (enQ z J q) x b n = fs (enQ z J q) x' b' := by unfold stn; rw [hx', hb']
    rw [es]
    dsimp only
    obtain ⟨hg, _, _⟩ := hf
    generalize fs (enQ z J q) x' b' = st at *
    have hbd := bdc_ok h2 hg.1.2.1
    have hN : Cw (enQ z J q) (aft (enQ z J q) x' st.1) (bdc b' st.2) ≠ 1000000 := by
      intro q1
      have := hg.2
      rw [q1] at this
      exact h3 this.symm
    refine ⟨?_, hbd, hN, ?_⟩
    · rcases h1.nx hq he.2.1 (hxx.2.2.mp hpos) hg.1 with ⟨_, q1⟩ | ⟨_, _, q1⟩
      · exact ⟨_, _, q1⟩
      · exact ⟨_, _, q1⟩
    · obtain ⟨c, c0, c1, c2⟩ := own_m (enQ z J q) x' st.1 st.2
      have e1 := hg.2
      unfold pl at e1
      rw [if_neg hN, c2] at e1
      have hm := Cw_m he _ (aft (enQ z J q) x' st.1) (bdc b' st.2) (Nat.le_refl _) hbd hN
      have hs := bok_s hbd
      have hr := Cw_rr he (x := aft (enQ z J q) x' st.1) hbd
      omega
