theorem candL_mem {s0 s1 s2 J k len bent : Nat} (hk : 1 ≤ k) {x : Q4} : x ∈ candL J k len (tbL s0 s1 s2 J bent (k - 1)) ↔ (len = k ∧ x = (0, 0, 0, 0)) ∨ (len ≠ k ∧ 1 ≤ len + J ∧ ∃ k', len + J + k' = k ∧ 1 ≤ k' ∧ x ∈ (lay4 s0 s1 s2 J k' bent).2) ∨ (len ≠ k ∧ len + J = 0 ∧ x ∈ drp 0 (tbL s0 s1 s2 J bent (k - 1))) := by
  unfold candL
  by_cases q : len = k
  · rw [show Nat.beq len k = true from Nat.beq_eq.mpr q, cond_true]
    simp [q]
  · rw [show Nat.beq len k = false by rw [← Bool.not_eq_true, Nat.beq_eq]; exact q, cond_false]
    by_cases r : k ≤ len + J
    · rw [show Nat.ble k (Nat.add len J) = true from Nat.ble_eq.mpr r, cond_true]
      constructor
      · intro h; exact absurd h (by simp)
      · rintro (h | ⟨_, _, k', h, h1, _⟩ | ⟨_, h, _⟩)
        · exact absurd h.1 q
        · omega
        · omega
    · rw [show Nat.ble k (Nat.add len J) = false by rw [← Bool.not_eq_true, Nat.ble_eq]; exact r, cond_false]
      by_cases z : len + J = 0
      · have e0 : Nat.pred (Nat.add len J) = 0 := by
          show (len + J) - 1 = 0
          omega
        rw [e0]
        constructor
        · exact fun h => Or.inr (Or.inr ⟨q, z, h⟩)
        · rintro (h | ⟨_, h, _⟩ | ⟨_, _, h⟩)
          · exact absurd h.1 q
          · omega
          · exact h
      · have e0 : Nat.pred (Nat.add len J) = len + J - 1 := rfl
        rw [e0, drp_tb _ _ (by omega), show k - 1 - (len + J - 1) = k - len - J by omega]
        constructor
        · exact fun h => Or.inr (Or.inl ⟨q, by omega, k - len - J, by omega, by omega, h⟩)
        · rintro (h | ⟨_, _, k', h, h1, h2⟩ | ⟨_, h, _⟩)
          · exact absurd h.1 q
          · rw [show k - len - J = k' by omega]; exact h2
          · omega
/-- behind the stone nothing of the piece, or a list of what is left -/
def bhd (e : En) (k bent : Nat) (len : Int) (x : Q4) : Prop := (len = k ∧ x = (0, 0, 0, 0)) ∨ (∃ k' : Nat, len + ej e + k' = k ∧ 1 ≤ k' ∧ x ∈ Lk e k' bent)
theorem chk_e {e : En} (h : Eok e) {bent k : Nat} (hb : bent ≤ 1) (hk : 1 ≤ k ∧ k ≤ 12) : ok3 (ez e 0).toNat (ez e 1).toNat (ez e 2).toNat (ej e).toNat bent k (Lk e k bent) (tbL (ez e 0).toNat (ez e 1).toNat (ez e 2).toNat (ej e).toNat bent (k - 1)) 9 = true ∧ anL (ez e 0).toNat (ez e 1).toNat (ez e 2).toNat (ej e).toNat bent k (tbL (ez e 0).toNat (ez e 1).toNat (ez e 2).toNat (ej e).toNat bent (k - 1)) (Lk e k bent) = true := by
  obtain ⟨h1, h2⟩ := h
  have hc := chkAll (a := (ez e 0).toNat) (b := (ez e 1).toNat) (c := (ez e 2).toNat) (by omega)
  unfold chkJ at hc
  rw [cond_and, cond_and] at hc
  have hB : chkB (ez e 0).toNat (ez e 1).toNat (ez e 2).toNat (ej e).toNat = true := by
    rcases (show (ej e).toNat = 0 ∨ (ej e).toNat = 1 ∨ (ej e).toNat = 2 by omega) with q | q | q <;> rw [q]
    · exact hc.1
    · exact hc.2.1
    · exact hc.2.2
  unfold chkB at hB
  rw [cond_and] at hB
  have hC : chk (ez e 0).toNat (ez e 1).toNat (ez e 2).toNat (ej e).toNat bent 12 1 [] = true := by
    rcases (show bent = 0 ∨ bent = 1 by omega) with q | q <;> rw [q]
    · exact hB.1
    · exact hB.2
  exact chk_all 12 0 hC k (by omega) (by omega)
theorem ez_n {e : En} (h : Eok e) {s : Int} (hs : 0 ≤ s ∧ s ≤ 2) : ez e s = ((ez e s).toNat : Int) := by
  have := h.z hs
  omega
theorem ck_i {e : En} (h : Eok e) {bent k : Nat} (hb : bent ≤ 1) (hk : 1 ≤ k ∧ k ≤ 12) {len s : Int} (hs : 0 ≤ s ∧ s ≤ 2) (hl : 1 ≤ len ∧ len ≤ ez e s) {x : Q4} (hx : bhd e k bent len x) (h6 : ble (badd (yB x) (unb s)) (6, 6, 6)) :
    ∃ y, y ∈ Lk e k bent ∧ ble (yB y) (badd (yB x) (unb s)) ∧ (y.2.2.2 : Int) ≤ x.2.2.2 + cuI e k bent len s := by
  have hc := (chk_e h hb hk).1
  have hz := h.z hs
  have hj := h.2
  have hlk : len ≤ k := by rcases hx with ⟨q, _⟩ | ⟨k', q, _⟩ <;> omega
  obtain ⟨n, hn⟩ : ∃ n : Nat, len = n := ⟨len.toNat, by omega⟩
  have h3 := ok3_all hc n (by omega) (by omega) (by omega)
  have hm : x ∈ candL (ej e).toNat k n (tbL (ez e 0).toNat (ez e 1).toNat (ez e 2).toNat (ej e).toNat bent (k - 1)) := by
    rw [candL_mem hk.1]
    rcases hx with ⟨q1, q2⟩ | ⟨k', q1, q2, q3⟩
    · exact Or.inl ⟨by omega, q2⟩
    · exact Or.inr (Or.inl ⟨by omega, by omega, k', by omega, q2, q3⟩)
  have go : ∀ (so z e0 e1 e2 : Nat), s = so → ez e s = z → unb s = ((e0 : Int), (e1 : Int), (e2 : Int)) → ok1 (ez e 0).toNat (ej e).toNat bent k z so e0 e1 e2 n (Lk e k bent) (tbL (ez e 0).toNat (ez e 1).toNat (ez e 2).toNat (ej e).toNat bent (k - 1)) = true → ∃ y, y ∈ Lk e k bent ∧ ble (yB y) (badd (yB x) (unb s)) ∧ (y.2.2.2 : Int) ≤ x.2.2.2 + cuI e k bent len s := by
    intro so z e0 e1 e2 es ezz eu ho
    unfold ok1 at ho
    rw [show Nat.ble n z = true from Nat.ble_eq.mpr (by omega), cond_true, frc_eq] at ho
    rw [eu] at h6 ⊢
    obtain ⟨g1, g2, g3⟩ := h6
    unfold badd yB at g1 g2 g3
    dsimp only at g1 g2 g3
    obtain ⟨y, y1, y2⟩ := iAll_all ho x hm (by omega) (by omega) (by omega)
    have hcu := cu_eq (e := e) (k := k) (len := n) hb (ez_n h (by decide)) ezz es
    obtain ⟨u1, u2, u3, u4⟩ := y2
    unfold q4a at u1 u2 u3 u4
    dsimp only at u1 u2 u3 u4
    refine ⟨y, y1, ?_, ?_⟩
    · unfold ble badd yB
      dsimp only
      omega
    · rw [hn, ← hcu]
      omega
  rcases (show s = 0 ∨ s = 1 ∨ s = 2 by omega) with q | q | q
  · exact go 0 _ 1 0 0 q (by rw [q]; exact ez_n h (by decide)) (by rw [q]; rfl) h3.1
  · exact go 1 _ 0 1 0 q (by rw [q]; exact ez_n h (by decide)) (by rw [q]; rfl) h3.2.1
  · exact go 2 _ 0 0 1 q (by rw [q]; exact ez_n h (by decide)) (by rw [q]; rfl) h3.2.2
theorem ck_ii {e : En} (h : Eok e) {bent k : Nat} (hb : bent ≤ 1) (hk : 1 ≤ k ∧ k ≤ 12) {y : Q4} (hy : y ∈ Lk e k bent) :
    ∃ (len s : Int) (x : Q4), (0 ≤ s ∧ s ≤ 2) ∧ (1 ≤ len ∧ len ≤ ez e s) ∧ bhd e k bent len x ∧ ble (badd (yB x) (unb s)) (yB y) ∧ (x.2.2.2 : Int) + cuI e k bent len s ≤ y.2.2.2 := by
  have hc := anL_all (chk_e h hb hk).2 y hy
  have hj := h.2
  obtain ⟨n, n1, n2, n3, n4⟩ := an3_ex hc
  have go : ∀ (so z e0 e1 e2 : Nat) (s : Int), (0 ≤ s ∧ s ≤ 2) → s = so → ez e s = z → unb s = ((e0 : Int), (e1 : Int), (e2 : Int)) → an1 (ez e 0).toNat (ej e).toNat bent k z so e0 e1 e2 n y.1 y.2.1 y.2.2.1 y.2.2.2 (tbL (ez e 0).toNat (ez e 1).toNat (ez e 2).toNat (ej e).toNat bent (k - 1)) = true → ∃ (len s : Int) (x : Q4), (0 ≤ s ∧ s ≤ 2) ∧ (1 ≤ len ∧ len ≤ ez e s) ∧ bhd e k bent len x ∧ ble (badd (yB x) (unb s)) (yB y) ∧ (x.2.2.2 : Int) + cuI e k bent len s ≤ y.2.2.2 := by
    intro so z e0 e1 e2 s hs es ezz eu ho
    unfold an1 at ho
    by_cases hz : n ≤ z
    · rw [show Nat.ble n z = true from Nat.ble_eq.mpr hz, cond_true, frc_eq] at ho
      obtain ⟨x, x1, x2⟩ := iAny_ex ho
      have hcu := cu_eq (e := e) (k := k) (len := n) hb (ez_n h (by decide)) ezz es
      obtain ⟨u1, u2, u3, u4⟩ := x2
      unfold q4a at u1 u2 u3 u4
      dsimp only at u1 u2 u3 u4
      refine ⟨n, s, x, hs, ⟨by omega, by omega⟩, ?_, ?_, ?_⟩
      · rw [candL_mem hk.1] at x1
        rcases x1 with ⟨q1, q2⟩ | ⟨q1, q2, k', q3, q4, q5⟩ | ⟨_, q, _⟩
        · exact Or.inl ⟨by omega, q2⟩
        · exact Or.inr ⟨k', by omega, q4, q5⟩
        · omega
      · rw [eu]
        unfold ble badd yB
        dsimp only
        omega
      · rw [← hcu]
        omega
    · rw [show Nat.ble n z = false by rw [← Bool.not_eq_true, Nat.ble_eq]; exact hz, cond_false] at ho
      exact absurd ho (by decide)
  rcases n4 with q | q | q
  · exact go 0 _ 1 0 0 0 (by decide) rfl (ez_n h (by decide)) rfl q
  · exact go 1 _ 0 1 0 1 (by decide) rfl (ez_n h (by decide)) rfl q
  · exact go 2 _ 0 0 1 2 (by decide) rfl (ez_n h (by decide)) rfl q
/-! ===== a piece costs what its lists say ===== -/
theorem pl_pl {v o p : Int} (hv : vb v) (ho : 0 ≤ o ∧ o ≤ 10000) : pl (pl v o) p = pl v (o + p) := by
  unfold vb at hv
  unfold pl
  by_cases e : v = 1000000
  · rw [if_pos e, if_pos rfl, if_pos e]
  · rw [if_neg e, if_neg (by omega), if_neg e]; omega
theorem bdc_un {b : Bg} {s : Int} : bdc b s = (b.1 - (unb s).1, b.2.1 - (unb s).2.1, b.2.2 - (unb s).2.2) := by
  unfold bdc unb
  split
  · dsimp only; simp
  · split <;> dsimp only <;> simp
theorem bg_un {b : Bg} {s : Int} (hs : 0 ≤ s ∧ s ≤ 2) (h : bok b) : 0 < bg b s ↔ ble (unb s) b := by
  unfold bok at h
  unfold bg unb ble
  rcases (show s = 0 ∨ s = 1 ∨ s = 2 by omega) with q | q | q <;> subst q <;> simp <;> omega
theorem unb_r (s : Int) : (0 ≤ (unb s).1 ∧ 0 ≤ (unb s).2.1 ∧ 0 ≤ (unb s).2.2) ∧ (unb s).1 + (unb s).2.1 + (unb s).2.2 = 1 := by
  unfold unb
  split
  · decide
  · split <;> decide
theorem cuI_r (e : En) (k bent : Nat) (len s : Int) : 0 ≤ cuI e k bent len s ∧ cuI e k bent len s ≤ 2 := by
  unfold cuI
  split <;> split <;> omega
/-- an entry that a bag has costs no less -/
theorem pc_i {e : En} (h : Eok e) {S : Int} {n bent : Nat} (hS : 0 ≤ S) (hn : n ≤ 12) (hb : bent ≤ 1) (hp : Pce e S n bent) : ∀ (k : Nat), 1 ≤ k → k ≤ n → ∀ (b : Bg) (y : Q4), bok b → y ∈ Lk e k bent → ble (yB y) b → yW y ≤ 5000 → Cw e (S + k) b ≤ pl (Cw e S (bsb b y)) (yW y) := by
  intro k
  induction k using Nat.strongRecOn with
  | _ k ih =>
    intro k1 kn b y hbo hy hyb hyw
    obtain ⟨len, s, x, hs, hl, hx, hxy, hcu⟩ := ck_ii h hb ⟨k1, by omega⟩ hy
    have hu := unb_r s
    have hub : ble (unb s) b := by
      unfold ble badd yB at *
      dsimp only at *
      omega
    have hg := (bg_un hs hbo).mpr hub
    obtain ⟨hel, heb⟩ := hp k k1 kn
    have hj := h.2
    have hv : vld e (S + k) b len s := ⟨⟨hs, hl.1⟩, hg, hl.2, by
      rw [hel]
      rcases hx with ⟨q, _⟩ | ⟨k', q, q2, _⟩
      · exact Or.inl q
      · right; omega⟩
    have h1 := Cw_le h (by omega) hv
    rw [own_cu hp ⟨k1, kn⟩ hb] at h1
    have hcr := cuI_r e k bent len s
    have hbd : bok (bdc b s) := bdc_ok hbo hg
    have hbs : bok (bsb b y) := by
      unfold bok bsb ble yB at *
      dsimp only at *
      omega
    refine Int.le_trans h1 ?_
    rcases hx with ⟨q1, q2⟩ | ⟨k', q1, q2, q3⟩
    · have ea : aft e (S + k) len = S := by unfold aft; rw [hel, if_pos q1]; omega
      rw [ea]
      refine pl_mo (Cw_vb h hbd) (Cw_vb h hbs) (Cw_mono h hbs hbd ?_) ⟨by omega, ?_, by omega⟩
      · rw [bdc_un]
        unfold ble badd yB bsb at *
        dsimp only at *
        omega
      · unfold ble badd yB yW at *
        rw [q2] at hxy hcu
        dsimp only at *
        omega
    · have ea : aft e (S + k) len = S + k' := by unfold aft; rw [hel, if_neg (by omega)]; omega
      rw [ea]
      have hxb : ble (yB x) (bdc b s) := by
        rw [bdc_un]
        unfold ble badd yB at *
        dsimp only at *
        omega
      have hxw : yW x ≤ yW y := by
        unfold ble badd yB yW at *
        dsimp only at *
        omega
      have h2 := ih k' (by omega) q2 (by omega) (bdc b s) x hbd q3 hxb (by omega)
      have hbx : bok (bsb (bdc b s) x) := by
        rw [bdc_un] at hbd hxb ⊢
        unfold bok bsb ble yB at *
        dsimp only at *
        omega
      have hx0 : 0 ≤ yW x := by unfold yW; omega
      have hvp : vb (Cw e (S + k') (bdc b s)) := Cw_vb h hbd
      refine Int.le_trans (b := pl (pl (Cw e S (bsb (bdc b s) x)) (yW x)) (32 * cuI e k bent len s + 1)) ?_ ?_
      · have hvq := Cw_vb h (x := S) hbx
        unfold vb at hvp hvq
        unfold pl at h2 ⊢
        split <;> split <;> split at h2 <;> (try split) <;> omega
      · rw [pl_pl (Cw_vb h hbx) ⟨hx0, by omega⟩]
        refine pl_mo (Cw_vb h hbx) (Cw_vb h hbs) (Cw_mono h hbs hbx ?_) ⟨by omega, ?_, by omega⟩
        · rw [bdc_un]
          unfold ble badd yB bsb at *
          dsimp only at *
          omega
        · unfold ble badd yB yW at *
          dsimp only at *
          omega
/-- and one of them costs just so much -/
theorem pc_ii {e : En} (h : Eok e) {S : Int} {n bent : Nat} (hS : 0 ≤ S) (hn : n ≤ 12) (hb : bent ≤ 1) (hp : Pce e S n bent) : ∀ (k : Nat), 1 ≤ k → k ≤ n → ∀ (b : Bg), bok b → Cw e (S + k) b = 1000000 ∨ ∃ y, y ∈ Lk e k bent ∧ ble (yB y) b ∧ yW y ≤ 5000 ∧ pl (Cw e S (bsb b y)) (yW y) ≤ Cw e (S + k) b := by
  intro k
  induction k using Nat.strongRecOn with
  | _ k ih =>
    intro k1 kn b hbo
    rcases Cw_at h (x := S + k) (b := b) (by omega) with e1 | ⟨len, s, hv, e1⟩
    · exact Or.inl e1
    obtain ⟨⟨hs, hl1⟩, hg, hl2, hl3⟩ := id hv
    obtain ⟨hel, heb⟩ := hp k k1 kn
    rw [hel] at hl3
    have hj := h.2
    have hu := unb_r s
    have hub := (bg_un hs hbo).mp hg
    have hcr := cuI_r e k bent len s
    have hbd : bok (bdc b s) := bdc_ok hbo hg
    rw [own_cu hp ⟨k1, kn⟩ hb] at e1
    by_cases hN : Cw e (aft e (S + k) len) (bdc b s) = 1000000
    · left
      rw [e1, hN]; rfl
    right
    by_cases q1 : len = k
    · have ea : aft e (S + k) len = S := by unfold aft; rw [hel, if_pos q1]; omega
      rw [ea] at e1
      obtain ⟨y, y1, y2, y3⟩ := ck_i h hb ⟨k1, by omega⟩ hs ⟨hl1, hl2⟩ (x := (0, 0, 0, 0)) (Or.inl ⟨q1, rfl⟩) (by unfold ble badd yB; dsimp only; omega)
      have hyb : ble (yB y) b := by
        unfold ble badd yB at *
        dsimp only at *
        omega
      have hbs : bok (bsb b y) := by
        unfold bok bsb ble yB at *
        dsimp only at *
        omega
      have hyw : yW y ≤ 32 * cuI e k bent len s + 1 := by
        unfold ble badd yB yW at *
        dsimp only at *
        omega
      refine ⟨y, y1, hyb, by omega, ?_⟩
      rw [e1]
      refine pl_mo (Cw_vb h hbs) (Cw_vb h hbd) (Cw_mono h hbd hbs ?_) ⟨by unfold yW; omega, hyw, by omega⟩
      rw [bdc_un]
      unfold ble badd yB bsb at *
      dsimp only at *
      omega
    · obtain ⟨k', hk'⟩ : ∃ k' : Nat, len + ej e + k' = k := ⟨(k - len - ej e).toNat, by omega⟩
      have ea : aft e (S + k) len = S + k' := by unfold aft; rw [hel, if_neg q1]; omega
      rw [ea] at e1 hN
      obtain ⟨x, x1, x2, x3, x4⟩ := (ih k' (by omega) (by omega) (by omega) (bdc b s) hbd).resolve_left hN
      obtain ⟨y, y1, y2, y3⟩ := ck_i h hb ⟨k1, by omega⟩ hs ⟨hl1, hl2⟩ (x := x) (Or.inr ⟨k', hk', by omega, x1⟩) (by
        rw [bdc_un] at x2
        unfold bok at hbo
        unfold ble badd yB at *
        dsimp only at *
        omega)
      rw [bdc_un] at x2
      have hyb : ble (yB y) b := by
        unfold ble badd yB at *
        dsimp only at *
        omega
      have hbs : bok (bsb b y) := by
        unfold bok bsb ble yB at *
        dsimp only at *
        omega
      have hbx : bok (bsb (bdc b s) x) := by
        rw [bdc_un] at hbd ⊢
        unfold bok bsb ble yB at *
        dsimp only at *
        omega
      have hx0 : 0 ≤ yW x := by unfold yW; omega
      have hy0 : 0 ≤ yW y := by unfold yW; omega
      have hyw : yW y ≤ yW x + (32 * cuI e k bent len s + 1) := by
        unfold ble badd yB yW at *
        dsimp only at *
        omega
      have hyw2 : yW y ≤ 5000 := by
        unfold bok at hbo
        unfold vb at *
        have hvp := Cw_vb h (x := S + k') hbd
        have hvq := Cw_vb h (x := S) hbx
        unfold vb at hvp hvq
        unfold pl at x4
        split at x4 <;> omega
      refine ⟨y, y1, hyb, hyw2, ?_⟩
      rw [e1]
      refine Int.le_trans (b := pl (pl (Cw e S (bsb (bdc b s) x)) (yW x)) (32 * cuI e k bent len s + 1)) ?_ ?_
      · rw [pl_pl (Cw_vb h hbx) ⟨hx0, by omega⟩]
        refine pl_mo (Cw_vb h hbs) (Cw_vb h hbx) (Cw_mono h hbx hbs ?_) ⟨hy0, hyw, by omega⟩
        rw [bdc_un]
        unfold ble badd yB bsb at *
        dsimp only at *
        omega
      · have hvp := Cw_vb h (x := S + k') hbd
        have hvq := Cw_vb h (x := S) hbx
        unfold vb at hvp hvq
        unfold pl at x4 ⊢
        split <;> split <;> split at x4 <;> (try split) <;> omega
