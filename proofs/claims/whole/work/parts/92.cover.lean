/-! ===== cover: the row behind it ===== -/
theorem w32_add (x y : Int) : w32 (w32 x + y) = w32 (x + y) := by unfold w32; simp
theorem bg_bdc {b : Bg} {s s' : Int} (hs : 0 ≤ s ∧ s ≤ 2) (hs' : 0 ≤ s' ∧ s' ≤ 2) : bg (bdc b s') s = bg b s - (if s' = s then 1 else 0) := by
  obtain ⟨x, y, z⟩ := b
  unfold bg bdc
  rcases (show s = 0 ∨ s = 1 ∨ s = 2 by omega) with q1 | q1 | q1 <;> rcases (show s' = 0 ∨ s' = 1 ∨ s' = 2 by omega) with q2 | q2 | q2 <;> subst q1 <;> subst q2 <;> simp
theorem tr_used {q : Pc} (hq : Wq q) {z : Int → Int} {J : Int} (he : Eok (enQ z J q)) {x : Int} {b : Bg} (hb : bok b) {p k : Int} (hP : Pos q x p k) (hC : Cw (enQ z J q) x b ≠ 1000000) {s : Int} (hs : 0 ≤ s ∧ s ≤ 2) : ∀ n : Nat, (n : Int) ≤ Cw (enQ z J q) x b % 32 → bg (tr (enQ z J q) x b n).2 s = bg b s - nsum (wused (trQ (enQ z J q) x b) s) n := by
  intro n
  induction n with
  | zero => intro _; show bg b s = bg b s - 0; omega
  | succ n ih =>
    intro hn
    have h1 := ih (by omega)
    have e : wused (trQ (enQ z J q) x b) s n = if (stn (enQ z J q) x b n).2 = s then 1 else 0 := rfl
    have hall := tr_all hq he hb hP hC n (by omega)
    have hpos : 0 < (tr (enQ z J q) x b n).1 := by
      by_cases q1 : 0 < (tr (enQ z J q) x b n).1
      · exact q1
      · have := hall.2.2.2
        rw [Cw_0 (by omega)] at this
        omega
    have hF := FS_ex he hpos hall.2.2.1
    have hs2 : 0 ≤ (stn (enQ z J q) x b n).2 ∧ (stn (enQ z J q) x b n).2 ≤ 2 := hF.1.1.1.1
    show bg (bdc (tr (enQ z J q) x b n).2 (stn (enQ z J q) x b n).2) s = bg b s - (nsum (wused (trQ (enQ z J q) x b) s) n + wused (trQ (enQ z J q) x b) s n)
    rw [e]
    rw [bg_bdc hs hs2, h1]
    omega
theorem used_le {d : Dt} {R : Int → Int} {i c s : Int} (hd : WPl d) (hi : 0 ≤ i ∧ i < dl d) (hW : WRow d R) (hc : 0 ≤ c ∧ c ≤ 2) (hC : cR d R i c ≠ 1000000) (hs : 0 ≤ s ∧ s ≤ 2) : 0 ≤ nsum (wused (sR d R i c) s) (cR d R i c % 32).toNat ∧ nsum (wused (sR d R i c) s) (cR d R i c % 32).toNat ≤ R (1 + 3 * c + s) := by
  have hwl := hd.2.2 i hi.1 hi.2
  have hq := Wq_of hwl R
  have he : Eok (enR d R i) := ⟨hd.2.1, hW.1⟩
  have hb : bok (bR R c) := ⟨hW.2.1 _ (by omega) (by omega), hW.2.1 _ (by omega) (by omega), hW.2.1 _ (by omega) (by omega)⟩
  have hm : 0 ≤ cR d R i c % 32 := by omega
  have hle : (((cR d R i c % 32).toNat : Nat) : Int) ≤ cR d R i c % 32 := by omega
  have h1 := tr_used hq he hb (Pos_0 hq) hC hs (cR d R i c % 32).toNat hle
  have h2 := (tr_all hq he hb (Pos_0 hq) hC (cR d R i c % 32).toNat hle).2.1
  have h1' : bg (tr (enR d R i) (xR d R i) (bR R c) (cR d R i c % 32).toNat).2 s = bg (bR R c) s - nsum (wused (sR d R i c) s) (cR d R i c % 32).toNat := h1
  have h2' : bok (tr (enR d R i) (xR d R i) (bR R c) (cR d R i c % 32).toNat).2 := h2
  have h3 : 0 ≤ bg (tr (enR d R i) (xR d R i) (bR R c) (cR d R i c % 32).toNat).2 s := by
    unfold bok at h2'
    unfold bg
    split
    · omega
    · split <;> omega
  have h4 : bg (bR R c) s = R (1 + 3 * c + s) := by
    unfold bg bR
    rcases (show s = 0 ∨ s = 1 ∨ s = 2 by omega) with q | q | q <;> subst q <;> simp
  have h5 := nsum_b (f := wused (sR d R i c) s) (c := 1) (cR d R i c % 32).toNat (fun i _ => by unfold wused; split <;> decide)
  exact ⟨h5.1, by omega⟩
theorem snd_le {z : Int → Int} {q : Sq} {s : Int} : ∀ n : Nat, 0 ≤ nsum (wsnd z q s) n ∧ nsum (wsnd z q s) n ≤ nsum (wused q s) n
  | 0 => ⟨Int.le_refl _, Int.le_refl _⟩
  | n + 1 => by
    have h := snd_le (z := z) (q := q) (s := s) n
    have h2 : 0 ≤ wsnd z q s n ∧ wsnd z q s n ≤ wused q s n := by
      unfold wsnd wused
      by_cases e : q.2.1 n = s
      · rw [if_pos e]; split <;> decide
      · rw [if_neg e, if_neg (fun h => e h.1)]; decide
    show 0 ≤ nsum (wsnd z q s) n + wsnd z q s n ∧ nsum (wsnd z q s) n + wsnd z q s n ≤ nsum (wused q s) n + wused q s n
    omega
theorem hand_lo {d : Dt} {i a b k : Int} {n : Nat} {R : Int → Int} (h : k < 33) : hand d i a b n R k = R k := by
  unfold hand; rw [if_neg (fun q => by omega)]
theorem covR_w {d : Dt} {R : Int → Int} {i c : Int} (hd : WPl d) (hi : 0 ≤ i ∧ i < dl d) (hW : WRow d R) (hc : 0 ≤ c ∧ c ≤ 2) (hC : cR d R i c ≠ 1000000) (ho : R (10 + i) = -4) : WRow d (covR d R i c) := by
  obtain ⟨w1, w2, w3, w4, w5, w6, w7⟩ := id hW
  have hl := hd.1.2
  have e10 : ∀ j, 0 ≤ j → j < 3 → covR d R i c (10 + j) = if j = i then c else R (10 + j) := by
    intro j a b
    unfold covR
    rw [if_neg (by omega), if_neg (by omega), if_neg (by omega)]
    by_cases q : j = i
    · rw [if_pos (by omega), if_pos q]
    · rw [if_neg (by omega), if_neg q, if_neg (by omega), if_neg (by omega), if_neg (by omega), if_neg (by omega), hand_lo (by omega)]
  have e19 : ∀ j s, 0 ≤ j → j < 3 → 0 ≤ s → s < 3 → covR d R i c (19 + 3 * j + s) = if j = i then nsum (wsnd (dz d) (sR d R i c) s) (cR d R i c % 32).toNat else R (19 + 3 * j + s) := by
    intro j s a b a2 b2
    unfold covR
    rw [if_neg (by omega), if_neg (by omega), if_neg (by omega), if_neg (by omega), if_neg (by omega), if_neg (by omega)]
    by_cases q : j = i
    · rw [if_pos (by omega), if_pos q, show 19 + 3 * j + s - 19 - 3 * i = s by omega]
    · rw [if_neg (by omega), if_neg q, if_neg (by omega), hand_lo (by omega)]
  have e28 : ∀ j, 0 ≤ j → j < 3 → j ≠ i → covR d R i c (28 + j) = R (28 + j) := by
    intro j a b q
    unfold covR
    rw [if_neg (by omega), if_neg (by omega), if_neg (by omega), if_neg (by omega), if_neg (by omega), if_neg (by omega), if_neg (by omega), if_neg (by omega), hand_lo (by omega)]
  have e33 : ∀ x, 0 ≤ x → x < 400 → covR d R i c (33 + x) = hand d i (-4) i (dn d i).toNat R (33 + x) := by
    intro x a b
    unfold covR
    rw [if_neg (by omega), if_neg (by omega), if_neg (by omega), if_neg (by omega), if_neg (by omega), if_neg (by omega), if_neg (by omega), if_neg (by omega)]
  refine ⟨?_, fun k a b => ?_, fun j a b => ?_, fun j a b hq => ?_, fun j s a b a2 b2 => ?_, fun x a b => ?_, by unfold covR; rw [if_pos rfl]; exact w32_w _⟩
  · have : covR d R i c 0 = R 0 := by
      unfold covR
      rw [if_neg (by decide), if_neg (by decide), if_neg (by omega), if_neg (by omega), if_neg (by omega), if_neg (by omega), if_neg (by omega), if_neg (by omega), hand_lo (by decide)]
    rw [this]; exact w1
  · unfold covR
    rw [if_neg (by omega), if_neg (by omega)]
    by_cases q : 1 + 3 * c ≤ k ∧ k < 4 + 3 * c
    · rw [if_pos q]
      have h1 := used_le hd hi hW hc hC (s := k - 1 - 3 * c) (by omega)
      rw [show 1 + 3 * c + (k - 1 - 3 * c) = k by omega] at h1
      have := w2 k a b
      omega
    · rw [if_neg q, if_neg (by omega), if_neg (by omega), if_neg (by omega), if_neg (by omega), if_neg (by omega), hand_lo (by omega)]; exact w2 k a b
  · rw [e10 j a b]
    by_cases q : j = i
    · rw [if_pos q]; exact Or.inr hc
    · rw [if_neg q]; exact w3 j a b
  · rw [e10 j a b] at hq
    by_cases q : j = i
    · rw [if_pos q] at hq; omega
    · rw [if_neg q] at hq
      have := w4 j a b hq
      refine ⟨by rw [e28 j a b q]; exact this.1, fun s s0 s1 => ?_⟩
      rw [e19 j s a b s0 s1, if_neg q]; exact this.2 s s0 s1
  · rw [e19 j s a b a2 b2]
    by_cases q : j = i
    · rw [if_pos q]
      have h1 := used_le hd hi hW hc hC (s := s) (by omega)
      have h2 := snd_le (z := dz d) (q := sR d R i c) (s := s) (cR d R i c % 32).toNat
      have h3 := w2 (1 + 3 * c + s) (by omega) (by omega)
      omega
    · rw [if_neg q]; exact w5 j s a b a2 b2
  · rw [e33 x a b]
    unfold hand
    by_cases q : R (33 + x) = -4 ∧ 33 ≤ 33 + x ∧ onN d i (33 + x - 33) (dn d i).toNat = true
    · rw [if_pos q]
      right
      refine ⟨hi, ?_, ?_⟩
      · rw [e10 i hi.1 (by omega), if_pos rfl]; omega
      · have h3 := q.2.2
        unfold onN at h3
        rw [List.any_eq_true] at h3
        obtain ⟨k, k1, k2⟩ := h3
        rw [List.mem_range] at k1
        refine ⟨k, by omega, by omega, ?_⟩
        have := of_decide_eq_true k2
        omega
    · rw [if_neg q]
      rcases w6 x a b with u | ⟨u1, u2, u3⟩
      · exact Or.inl u
      · right
        refine ⟨u1, ?_, u3⟩
        rw [e10 _ u1.1 (by omega)]
        by_cases q2 : R (33 + x) = i
        · rw [if_pos q2]; omega
        · rw [if_neg q2]; exact u2
/-- the program puts the stones down -/
noncomputable def pdR (d : Dt) (R : Int → Int) (i c n : Int) : Int → Int := fun k =>
  if 1 + 3 * c ≤ k ∧ k < 1 + 3 * c + n then R k - nsum (wused (sR d R i c) (k - 1 - 3 * c)) (cR d R i c % 32).toNat
  else if 19 + 3 * i ≤ k ∧ k < 19 + 3 * i + n then nsum (wsnd (dz d) (sR d R i c) (k - 19 - 3 * i)) (cR d R i c % 32).toNat
  else hand d i (-4) i (dn d i).toNat R k
theorem tX1_putDown {g : Shp} {m : Mem} {f P i c w : Int} {d : Dt} {R : Int → Int} (hd : WPl d) (hi : 0 ≤ i ∧ i < dl d) (hp : IPl m P d) (hfp : f + 8 ≤ P ∨ P + 14 ≤ f) (hr : RowEq (rowC m f) R) (hW : WRow d R) (hc : 0 ≤ c ∧ c ≤ 2) (hC : cR d R i c ≠ 1000000) (hw : WayN m w (dz d) (sR d R i c) (cR d R i c % 32).toNat) (h5 : m w 5 = cR d R i c / 32) (hfw : f + 8 ≤ w ∨ w + 4 ≤ f) :
    T (eX1_putDown g f i (P + 5 + 3 * i) c w m) (fun q => RowEq (rowC q.2 f) (covR d R i c) ∧ ∀ x, (x < f ∨ f + 7 < x) → q.2 x = m x) := by
  have hl := hd.1.2
  have hcm : 0 ≤ cR d R i c % 32 := by omega
  have hcb := (cR_b (i := i) (c := c) hd hW hc).resolve_left hC
  unfold eX1_putDown ebX1_putDown_0
  refine T_bd2 (tX1_handOver (by omega) hl hi (hd.2.2 i hi.1 hi.2) hp hfp hr) ?_
  rintro r1 m1 ⟨a1, b1⟩
  dsimp only at a1 b1
  have hw1 : ∀ a, w ≤ a → a ≤ w + 3 → m1 a = m a := fun a x y => b1 a (by omega)
  have hWn := hw.c hw1
  have h51 : m1 w 5 = cR d R i c / 32 := by rw [hw1 w (by omega) (by omega)]; exact h5
  refine T_bdl (Q := fun r => RowEq (rowC r.2.2 f) (pdR d R i c 3) ∧ ∀ x, x ≠ f + 2 → x ≠ f + 6 → r.2.2 x = m1 x)
    (iter1 (fun s m' => (0 ≤ s ∧ s ≤ 3) ∧ RowEq (rowC m' f) (pdR d R i c s) ∧ ∀ x, x ≠ f + 2 → x ≠ f + 6 → m' x = m1 x) (fun s => (3 - s).toNat) ⟨by decide, ?_, fun _ _ _ => rfl⟩ (by decide) ?_) ?_
  · intro k k0 k1
    rw [a1 k k0 k1]
    unfold pdR
    rw [if_neg (by omega), if_neg (by omega)]
  · rintro s m' ⟨s1, s2, s3⟩
    unfold eBX1_putDown_11 ebX1_putDown_11
    simp only
    refine T_if (fun cc => T_out (by decide) ⟨?_, s3⟩) (fun cc => ?_)
    · rw [show (3 : Int) = s by omega]; exact s2
    · have hu := used_le hd hi hW hc hC (s := s) (by omega)
      have hr6 := hW.2.1 (1 + 3 * c + s) (by omega) (by omega)
      have eb : m' (f + 2) (3 * c + s) = R (1 + 3 * c + s) := by
        have h1 := s2 (1 + (3 * c + s)) (by omega) (by omega)
        rw [rowC_b (by omega)] at h1
        rw [h1]
        unfold pdR
        rw [if_neg (by omega), if_neg (by omega), hand_lo (by omega)]
        congr 1
        omega
      have eu : m' (w + 2) s = nsum (wused (sR d R i c) s) (cR d R i c % 32).toNat := by rw [s3 _ (by omega) (by omega)]; exact (hWn.2.2.1 s s1.1 (by omega)).1
      have es : m' (w + 3) s = nsum (wsnd (dz d) (sR d R i c) s) (cR d R i c % 32).toNat := by rw [s3 _ (by omega) (by omega)]; exact (hWn.2.2.1 s s1.1 (by omega)).2
      have y1 : w32 (w32 (c * 3) + s) = 3 * c + s := by rw [w32_id (x := c * 3) (by omega) (by omega), w32_id (by omega) (by omega)]; omega
      have y2 : w32 (w32 (i * 3) + s) = 3 * i + s := by rw [w32_id (x := i * 3) (by omega) (by omega), w32_id (by omega) (by omega)]; omega
      simp only [y1, y2]
      rw [eb, eu, w32_id (x := R (1 + 3 * c + s) - nsum (wused (sR d R i c) s) (cR d R i c % 32).toNat) (by omega) (by omega), w32_id (x := s + 1) (by omega) (by omega)]
      refine T_ck ⟨by omega, by omega⟩ (T_ck ⟨by omega, by omega⟩ (T_ck ⟨by omega, by omega⟩ (T_vm' (fun m2 e2 => T_ck ⟨by omega, by omega⟩ (T_ck ⟨by omega, by omega⟩ ?_)))))
      rw [show m2 (w + 3) s = nsum (wsnd (dz d) (sR d R i c) s) (cR d R i c % 32).toNat by rw [e2, ms_x (by omega)]; exact es]
      refine T_vm' (fun m3 e3 => T_vv (T_go ⟨⟨by simp only; omega, by simp only; omega⟩, ?_, fun x x1 x2 => ?_⟩ (by simp only; omega)))
      · simp only
        have r1 := row_s (f := f) (j := 1 + (3 * c + s)) s2 e2 (by omega) (by rw [(rA_b ⟨by omega, by omega⟩).1]) (by rw [(rA_b ⟨by omega, by omega⟩).2]) rfl
        have r2 := row_s (f := f) (j := 19 + (3 * i + s)) r1 e3 (by omega) (by rw [(rA_u ⟨by omega, by omega⟩).1]) (by rw [(rA_u ⟨by omega, by omega⟩).2]) rfl
        refine RowEq.tr r2 (fun k k0 k1 => ?_)
        unfold up pdR
        by_cases q1 : k = 19 + (3 * i + s)
        · rw [if_pos q1, if_neg (by omega), if_pos (by omega), show k - 19 - 3 * i = s by omega]
        · rw [if_neg q1]
          by_cases q2 : k = 1 + (3 * c + s)
          · rw [if_pos q2, if_pos (by omega), show k - 1 - 3 * c = s by omega, show k = 1 + 3 * c + s by omega]
          · rw [if_neg q2]
            by_cases q3 : 1 + 3 * c ≤ k ∧ k < 1 + 3 * c + s
            · rw [if_pos q3, if_pos (show 1 + 3 * c ≤ k ∧ k < 1 + 3 * c + (s + 1) by omega)]
            · rw [if_neg q3, if_neg (show ¬ (1 + 3 * c ≤ k ∧ k < 1 + 3 * c + (s + 1)) by omega)]
              by_cases q4 : 19 + 3 * i ≤ k ∧ k < 19 + 3 * i + s
              · rw [if_pos q4, if_pos (show 19 + 3 * i ≤ k ∧ k < 19 + 3 * i + (s + 1) by omega)]
              · rw [if_neg q4, if_neg (show ¬ (19 + 3 * i ≤ k ∧ k < 19 + 3 * i + (s + 1)) by omega)]
      · simp only
        rw [e3, ms_f x2, e2, ms_f x1]; exact s3 x x1 x2
  · rintro cc ⟨s, m2⟩ ⟨s2, s3⟩
    dsimp only at s2 s3
    unfold ebX1_putDown_64
    dsimp only
    have hi3 : 0 ≤ i ∧ i < 3 := ⟨hi.1, by omega⟩
    have w2 : ∀ a, w ≤ a → a ≤ w + 3 → m2 a = m1 a := fun a x y => s3 a (by omega) (by omega)
    refine T_ck hi3 (T_vm' (fun m3 e3 => ?_))
    rw [show m3 w 4 = cR d R i c % 32 by rw [e3, ms_x (by omega), w2 w (by omega) (by omega), hWn.1]; omega]
    refine T_ck hi3 (T_vm' (fun m4 e4 => ?_))
    rw [show m4 w 5 = cR d R i c / 32 by rw [e4, ms_x (by omega), e3, ms_x (by omega), w2 w (by omega) (by omega)]; exact h51]
    refine T_ck hi3 (T_vm' (fun m5 e5 => ?_))
    rw [show m5 w 3 = nsum (wspo (dz d) (sR d R i c)) (cR d R i c % 32).toNat by rw [e5, ms_x (by omega), e4, ms_x (by omega), e3, ms_x (by omega), w2 w (by omega) (by omega)]; exact hWn.2.2.2.1]
    refine T_ck hi3 (T_vm' (fun m6 e6 => ?_))
    have e85 : m6 f 8 = R 31 := by
      rw [e6, ms_x (by omega), e5, ms_x (by omega), e4, ms_x (by omega), e3, ms_x (by omega), ← rowC_31 m2 f, s2 31 (by decide) (by decide)]
      unfold pdR
      rw [if_neg (by omega), if_neg (by omega), hand_lo (by decide)]
    rw [e85, show m6 w 5 = cR d R i c / 32 by rw [e6, ms_x (by omega), e5, ms_x (by omega), e4, ms_x (by omega), e3, ms_x (by omega), w2 w (by omega) (by omega)]; exact h51]
    refine T_vm' (fun m7 e7 => ?_)
    have e95 : m7 f 9 = R 32 := by
      rw [e7, ms_y (by decide), e6, ms_x (by omega), e5, ms_x (by omega), e4, ms_x (by omega), e3, ms_x (by omega), ← rowC_32 m2 f, s2 32 (by decide) (by decide)]
      unfold pdR
      rw [if_neg (by omega), if_neg (by omega), hand_lo (by decide)]
    rw [e95, show m7 w 6 = nsum (woff (dz d) (sR d R i c)) (cR d R i c % 32).toNat by rw [e7, ms_x (by omega), e6, ms_x (by omega), e5, ms_x (by omega), e4, ms_x (by omega), e3, ms_x (by omega), w2 w (by omega) (by omega)]; exact hWn.2.2.2.2]
    refine T_vm' (fun m8 e8 => T_some ⟨?_, fun x hx => ?_⟩)
    · dsimp only
      have r3 := row_s (f := f) (j := 10 + i) s2 e3 (by omega) (by rw [(rA_c ⟨by omega, by omega⟩).1]) (by rw [(rA_c ⟨by omega, by omega⟩).2]) rfl
      have r4 := row_s (f := f) (j := 13 + i) r3 e4 (by omega) (by rw [(rA_s ⟨by omega, by omega⟩).1]) (by rw [(rA_s ⟨by omega, by omega⟩).2]) rfl
      have r5 := row_s (f := f) (j := 16 + i) r4 e5 (by omega) (by rw [(rA_k ⟨by omega, by omega⟩).1]) (by rw [(rA_k ⟨by omega, by omega⟩).2]) rfl
      have r6 := row_s (f := f) (j := 28 + i) r5 e6 (by omega) (by rw [(rA_p ⟨by omega, by omega⟩).1]) (by rw [(rA_p ⟨by omega, by omega⟩).2]) rfl
      have r7 := row_s (f := f) (j := 31) r6 e7 (by decide) (by rw [show rA 31 = 0 from by decide]; omega) (by rw [show rB 31 = 8 from by decide]) rfl
      have r8 := row_s (f := f) (j := 32) r7 e8 (by decide) (by rw [show rA 32 = 0 from by decide]; omega) (by rw [show rB 32 = 9 from by decide]) rfl
      refine RowEq.tr r8 (fun k k0 k1 => ?_)
      unfold up covR pdR
      by_cases q1 : k = 32
      · rw [if_pos q1, if_pos q1]
      · rw [if_neg q1, if_neg q1]
        by_cases q2 : k = 31
        · rw [if_pos q2, if_pos q2]
        · rw [if_neg q2, if_neg q2]
          by_cases q3 : k = 28 + i
          · rw [if_pos q3, if_neg (by omega), if_neg (by omega), if_neg (by omega), if_neg (by omega), if_neg (by omega), if_pos q3]
          · rw [if_neg q3]
            by_cases q4 : k = 16 + i
            · rw [if_pos q4, if_neg (by omega), if_neg (by omega), if_neg (by omega), if_pos q4]
            · rw [if_neg q4]
              by_cases q5 : k = 13 + i
              · rw [if_pos q5, if_neg (by omega), if_neg (by omega), if_pos q5]
              · rw [if_neg q5]
                by_cases q6 : k = 10 + i
                · rw [if_pos q6, if_neg (by omega), if_pos q6]
                · rw [if_neg q6]
                  by_cases q7 : 1 + 3 * c ≤ k ∧ k < 4 + 3 * c
                  · rw [if_pos (show 1 + 3 * c ≤ k ∧ k < 1 + 3 * c + 3 by omega), if_pos q7]
                  · rw [if_neg (show ¬ (1 + 3 * c ≤ k ∧ k < 1 + 3 * c + 3) by omega), if_neg q7, if_neg q6, if_neg q5, if_neg q4]
                    by_cases q8 : 19 + 3 * i ≤ k ∧ k < 22 + 3 * i
                    · rw [if_pos (show 19 + 3 * i ≤ k ∧ k < 19 + 3 * i + 3 by omega), if_pos q8]
                    · rw [if_neg (show ¬ (19 + 3 * i ≤ k ∧ k < 19 + 3 * i + 3) by omega), if_neg q8, if_neg q3]
    · dsimp only
      rw [e8, ms_f (by omega), e7, ms_f (by omega), e6, ms_f (by omega), e5, ms_f (by omega), e4, ms_f (by omega), e3, ms_f (by omega), s3 x (by omega) (by omega), b1 x (by omega)]
