/-! ===== takeUp ===== -/
def kp (R : Int → Int) (i s : Int) : Int := jmin (R (19 + 3 * i + s)) (6 - R (1 + 3 * R (10 + i) + s))
def gch (z R : Int → Int) (i : Int) : Nat → Int
  | 0 => R 32
  | n + 1 => w32 (gch z R i n + (R (19 + 3 * i + n) - kp R i n) * z n)
theorem gch_s {z R : Int → Int} {i k : Int} (h : 0 ≤ k) : gch z R i (k + 1).toNat = w32 (gch z R i k.toNat + (R (19 + 3 * i + k) - kp R i k) * z k) := by
  obtain ⟨n, rfl⟩ := Int.eq_ofNat_of_zero_le h
  rw [show ((n : Int) + 1).toNat = n + 1 by omega, show ((n : Int)).toNat = n by omega]
  rfl
def UR (z R : Int → Int) (i n : Int) : Int → Int := fun k => if k = 32 then gch z R i n.toNat else if 1 + 3 * R (10 + i) ≤ k ∧ k < 1 + 3 * R (10 + i) + n then R k + kp R i (k - 1 - 3 * R (10 + i)) else R k
def takeR (z R : Int → Int) (i : Int) : Int → Int := fun k =>
  if k = 32 then w32 (gch z R i 3 + R (28 + i)) else if k = 10 + i then -4 else if k = 13 + i ∨ k = 16 + i ∨ k = 28 + i ∨ (19 + 3 * i ≤ k ∧ k < 22 + 3 * i) then 0
  else if 33 ≤ k ∧ R k = i then -4 else UR z R i 3 k
theorem UR_s {z R : Int → Int} {i n : Int} (hc : 0 ≤ R (10 + i) ∧ R (10 + i) ≤ 2) (hn : 0 ≤ n ∧ n < 3) :
    up (up (UR z R i n) (1 + 3 * R (10 + i) + n) (R (1 + 3 * R (10 + i) + n) + kp R i n)) 32 (gch z R i (n + 1).toNat) = UR z R i (n + 1) := by
  funext k
  unfold UR
  by_cases q : k = 32
  · rw [q, up_at, if_pos rfl]
  · rw [up_ne q, if_neg q]
    by_cases w : k = 1 + 3 * R (10 + i) + n
    · rw [w, up_at, if_pos (by omega)]
      congr 2
      omega
    · rw [up_ne w, if_neg q]
      by_cases v : 1 + 3 * R (10 + i) ≤ k ∧ k < 1 + 3 * R (10 + i) + n
      · rw [if_pos v, if_pos (by omega)]
      · rw [if_neg v, if_neg (by omega)]
theorem jmin_v {a b : Int} : jmin a b = if a ≤ b then a else b := by
  unfold jmin
  by_cases h : b < a
  · rw [if_pos h, if_neg (by omega)]
  · rw [if_neg h, if_pos (by omega)]
theorem kp_r {d : Dt} {R : Int → Int} {i s : Int} (hw : WRow d R) (hi : 0 ≤ i ∧ i < 3) (hs : 0 ≤ s ∧ s < 3) (hc : 0 ≤ R (10 + i) ∧ R (10 + i) ≤ 2) :
    0 ≤ kp R i s ∧ kp R i s ≤ R (19 + 3 * i + s) ∧ R (1 + 3 * R (10 + i) + s) + kp R i s ≤ 6 ∧ R (19 + 3 * i + s) ≤ 6 := by
  have h1 := hw.2.2.2.2.1 i s hi.1 hi.2 hs.1 hs.2
  have h2 := hw.2.1 (1 + 3 * R (10 + i) + s) (by omega) (by omega)
  unfold kp
  rw [jmin_v]
  split <;> omega
theorem mul_r {a b : Int} (h1 : 0 ≤ a ∧ a ≤ 6) (h2 : 0 ≤ b ∧ b ≤ 9) : 0 ≤ a * b ∧ a * b ≤ 54 := by
  have h3 := Int.mul_nonneg h1.1 h2.1
  have h4 : a * b ≤ 6 * 9 := Int.mul_le_mul h1.2 h2.2 h2.1 (by decide)
  omega
theorem tX1_pickUp {g : Shp} {m : Mem} {f P i : Int} {d : Dt} {R : Int → Int} (hd : WPl d) (hi : 0 ≤ i ∧ i < dl d) (hp : IPl m P d) (hfp : f + 8 ≤ P ∨ P + 14 ≤ f) (hr : RowEq (rowC m f) R) (hw : WRow d R) (hc : R (10 + i) ≠ -4)
    (hg1 : gl g (P + 1) = 3) (hg2 : gl g (f + 6) = 9) :
    T (eX1_pickUp g f i (P + 5 + 3 * i) (P + 1) m) (fun q => q.1 = rsum (kp R i) 3 ∧ RowEq (rowC q.2 f) (takeR (dz d) R i) ∧ ∀ x, (x < f ∨ f + 7 < x) → q.2 x = m x) := by
  have hl := hd.1
  have hcc := (hw.2.2.1 i hi.1 (by omega)).resolve_left hc
  have hz : ∀ s, 0 ≤ s → s < 3 → 0 ≤ dz d s ∧ dz d s ≤ 9 := fun s a b => by
    have := hd.2.1
    rcases (show s = 0 ∨ s = 1 ∨ s = 2 by omega) with e | e | e <;> rw [e] <;> omega
  have hk : ∀ s, 0 ≤ s → s < 3 → 0 ≤ kp R i s ∧ kp R i s ≤ R (19 + 3 * i + s) ∧ R (1 + 3 * R (10 + i) + s) + kp R i s ≤ 6 ∧ R (19 + 3 * i + s) ≤ 6 := fun s a b => kp_r hw ⟨hi.1, by omega⟩ ⟨a, b⟩ hcc
  have hsum : ∀ n : Nat, n ≤ 3 → 0 ≤ rsum (kp R i) n ∧ rsum (kp R i) n ≤ 18 := fun n hn => by
    have a := rsum_0 (f := kp R i) n (fun r a b => (hk r a (by omega)).1)
    have b := rsum_le (f := kp R i) (c := 6) n (fun r a b => by have := hk r a (by omega); omega)
    omega
  unfold eX1_pickUp ebX1_pickUp_0
  refine T_bdl (Q := fun q => q.2.1 = rsum (kp R i) 3 ∧ RowEq (rowC q.2.2.2 f) (UR (dz d) R i 3) ∧ ∀ x, (x < f ∨ f + 7 < x) → q.2.2.2 x = m x)
    (iter2 (fun z k m' => 0 ≤ k ∧ k ≤ 3 ∧ z = rsum (kp R i) k.toNat ∧ RowEq (rowC m' f) (UR (dz d) R i k) ∧ ∀ x, (x < f ∨ f + 7 < x) → m' x = m x) (fun _ k => (3 - k).toNat)
      ⟨by decide, by decide, rfl, hr.tr (fun k _ _ => ?_), fun _ _ => rfl⟩ (by decide) ?_) ?_
  · unfold UR
    by_cases q : k = 32
    · rw [if_pos q, q]; rfl
    · rw [if_neg q, if_neg (by omega)]
  · rintro z k m' ⟨h1, h2, h3, h4, h5⟩
    unfold eBX1_pickUp_6 ebX1_pickUp_6
    simp only
    refine T_if (fun hq => T_out (by decide) ⟨?_, ?_, h5⟩) (fun hq => ?_)
    · simp only
      rw [h3, show k = 3 by omega]; rfl
    · simp only
      rw [show k = 3 by omega] at h4; exact h4
    · have hsk := hsum k.toNat (by omega)
      have hkk := hk k h1 (by omega)
      have hzz := hz k h1 (by omega)
      have hbk := hw.2.1 (1 + 3 * R (10 + i) + k) (by omega) (by omega)
      have e6 : m' (f + 6) (i * 3 + k) = R (19 + 3 * i + k) := by
        rw [← rowC_u (m := m') (f := f) (k := i * 3 + k) (by omega), h4 _ (by omega) (by omega)]
        unfold UR
        rw [if_neg (by omega), if_neg (by omega)]
        congr 1
        omega
      have e3 : m' (f + 3) i = R (10 + i) := by
        rw [← rowC_c' (m := m') (f := f) (k := i) (by omega), h4 _ (by omega) (by omega)]
        unfold UR
        rw [if_neg (by omega), if_neg (by omega)]
      have e2 : m' (f + 2) (R (10 + i) * 3 + k) = R (1 + 3 * R (10 + i) + k) := by
        rw [← rowC_b (m := m') (f := f) (k := R (10 + i) * 3 + k) (by omega), h4 _ (by omega) (by omega)]
        unfold UR
        rw [if_neg (by omega), if_neg (by omega)]
        congr 1
        omega
      have e9 : m' f 9 = gch (dz d) R i k.toNat := by
        rw [← rowC_32 m' f, h4 32 (by decide) (by decide)]
        unfold UR
        rw [if_pos rfl]
      have ez : m' (P + 1) k = dz d k := by rw [h5 (P + 1) (by omega)]; exact hp.1 k h1 (by omega)
      have hm := mul_r (a := R (19 + 3 * i + k) - kp R i k) (b := dz d k) (by omega) hzz
      simp (disch := omega) only [w32_id, e6, e3]
      refine T_ck ⟨by omega, by omega⟩ (T_vv (T_ck ⟨by omega, by omega⟩ (T_vv ?_)))
      simp (disch := omega) only [w32_id, e2]
      have ek : jmin (R (19 + 3 * i + k)) (6 - R (1 + 3 * R (10 + i) + k)) = kp R i k := rfl
      simp only [ek]
      refine T_ck ⟨by omega, by omega⟩ (T_vv (T_ck ⟨by omega, by omega⟩ (T_ck ⟨by omega, by omega⟩ (T_vm (T_vv (T_ck ⟨by omega, by omega⟩ (T_vm (T_vv (T_go ⟨by simp only; omega, by simp only; omega, ?_, ?_, fun x hx => ?_⟩ (by simp only; omega)))))))))) 
      · simp only
        rw [rsum_s h1, h3, w32_id (by omega) (by omega)]
      · simp only
        rw [← UR_s hcc ⟨h1, by omega⟩]
        have qb := rA_b (y := R (10 + i) * 3 + k) (by omega)
        have e : 1 + 3 * R (10 + i) + k = 1 + (R (10 + i) * 3 + k) := by omega
        refine row_s (row_s h4 rfl (by omega) (by rw [e, qb.1]) (by rw [e, qb.2]) ?_) rfl (by decide) (by show f = f + 0; omega) rfl ?_
        · rw [w32_id (by omega) (by omega)]
        · rw [gch_s h1, ms_y (by omega), e9, ms_x (by omega), ez, w32_id (x := R (19 + 3 * i + k) - kp R i k) (by omega) (by omega), w32_id (x := (R (19 + 3 * i + k) - kp R i k) * dz d k) (by omega) (by omega)]
      · simp only
        rw [ms_f (by omega), ms_f (by omega)]; exact h5 x hx
  · rintro r ⟨z, k, m'⟩ ⟨h1, h2, h3⟩
    simp only at h1 h2 h3
    unfold ebX1_pickUp_99
    dsimp only
    have eP : ∀ x, P ≤ x → x ≤ P + 13 → ms m' f 9 (w32 (m' f 9 + m' (f + 7) i)) x = m x := fun x a b => by rw [ms_f (by omega), h3 x (by omega)]
    refine T_ck ⟨by omega, by omega⟩ (T_vm (T_bd2 (tX1_handOver (d := d) (P := P) (R := up (UR (dz d) R i 3) 32 (w32 (gch (dz d) R i 3 + R (28 + i)))) (by omega) (by omega) hi (hd.2.2 i hi.1 hi.2) (hp.c (by omega) eP) hfp ?_) ?_))
    · refine row_s h2 rfl (by decide) (by show f = f + 0; omega) rfl ?_
      have a : m' f 9 = gch (dz d) R i 3 := by
        rw [← rowC_32 m' f, h2 32 (by decide) (by decide)]
        unfold UR
        rw [if_pos rfl]
        rfl
      have b : m' (f + 7) i = R (28 + i) := by
        rw [← rowC_p (m := m') (f := f) (k := i) (by omega), h2 _ (by omega) (by omega)]
        unfold UR
        rw [if_neg (by omega), if_neg (by omega)]
      rw [a, b]
    · rintro r2 m2 ⟨k1, k2⟩
      simp only at k1 k2
      have hst : T (eX1_strip g f i m2) (fun q => RowEq (rowC q.2 f) (takeR (dz d) R i) ∧ ∀ x, (x < f ∨ f + 7 < x) → q.2 x = m2 x) := by
        unfold eX1_strip ebX1_strip_0
        simp (disch := omega) only [w32_id]
        refine T_ck ⟨by omega, by omega⟩ (T_vm' ?_)
        intro m3 e3
        refine T_ck ⟨by omega, by omega⟩ (T_vm' ?_)
        intro m4 e4
        refine T_ck ⟨by omega, by omega⟩ (T_vm' ?_)
        intro m5 e5
        refine T_ck ⟨by omega, by omega⟩ (T_vm' ?_)
        intro m6 e6
        refine T_bd2 (tJ7_fill (by omega) (by omega) (by omega) (by omega)) ?_
        rintro r7 m7 ⟨f1, f2, f3⟩
        simp only at f1 f2 f3
        have c3 := rA_c (y := i) (by omega)
        have c4 := rA_s (y := i) (by omega)
        have c5 := rA_k (y := i) (by omega)
        have c6 := rA_p (y := i) (by omega)
        have R3 := row_s (j := 10 + i) (v' := -4) k1 e3 (by omega) (by rw [c3.1]) (by rw [c3.2]) rfl
        have R4 := row_s (j := 13 + i) (v' := 0) R3 e4 (by omega) (by rw [c4.1]) (by rw [c4.2]) rfl
        have R5 := row_s (j := 16 + i) (v' := 0) R4 e5 (by omega) (by rw [c5.1]) (by rw [c5.2]) rfl
        have R6 := row_s (j := 28 + i) (v' := 0) R5 e6 (by omega) (by rw [c6.1]) (by rw [c6.2]) rfl
        refine T_some ⟨fun x x0 x1 => ?_, fun x hx => ?_⟩
        · simp only
          unfold takeR
          have same : x ≠ 28 + i → x ≠ 16 + i → x ≠ 13 + i → x ≠ 10 + i → rowC m6 f x = hand d i i (-4) (dn d i).toNat (up (UR (dz d) R i 3) 32 (w32 (gch (dz d) R i 3 + R (28 + i)))) x := fun a b c e => by
            rw [R6 x x0 x1, up_ne a, up_ne b, up_ne c, up_ne e]
          have keep : (x < 19 + 3 * i ∨ 22 + 3 * i ≤ x) → rowC m7 f x = rowC m6 f x := fun hx => by
            rw [rowC_AB, rowC_AB]
            by_cases q : rA x = 6
            · rcases rAB_cases x0 with ⟨e, a, b⟩ | ⟨e, e', a, b⟩ | ⟨e, e', a, b⟩ | ⟨e, e', a, b⟩ | ⟨e, e', a, b⟩ | ⟨e, e', a, b⟩ | ⟨e, e', a, b⟩ | ⟨e, a, b⟩ | ⟨e, a, b⟩ | ⟨e, a, b⟩ <;> first | (exfalso; omega) | (rw [a, b]; exact f2 _ (by omega))
            · rw [f3 _ (by omega)]
          by_cases q1 : x = 32
          · rw [if_pos q1, keep (by omega), same (by omega) (by omega) (by omega) (by omega)]
            unfold hand
            rw [if_neg (by omega), q1, up_at]
          · rw [if_neg q1]
            by_cases q2 : x = 10 + i
            · rw [if_pos q2, keep (by omega), R6 x x0 x1, up_ne (by omega), up_ne (by omega), up_ne (by omega), q2, up_at]
            · rw [if_neg q2]
              by_cases q3 : x = 13 + i ∨ x = 16 + i ∨ x = 28 + i ∨ (19 + 3 * i ≤ x ∧ x < 22 + 3 * i)
              · rw [if_pos q3]
                rcases q3 with q3 | q3 | q3 | q3
                · rw [keep (by omega), R6 x x0 x1, up_ne (by omega), up_ne (by omega), q3, up_at]
                · rw [keep (by omega), R6 x x0 x1, up_ne (by omega), q3, up_at]
                · rw [keep (by omega), R6 x x0 x1, q3, up_at]
                · have := rA_u (y := x - 19) (by omega)
                  rw [show 19 + (x - 19) = x by omega] at this
                  rw [rowC_AB, this.1, this.2]
                  exact f1 _ (by omega) (by omega)
              · rw [if_neg q3, keep (by omega), same (by omega) (by omega) (by omega) (by omega)]
                unfold hand
                by_cases q4 : 33 ≤ x ∧ R x = i
                · rw [if_pos q4]
                  have hU : up (UR (dz d) R i 3) 32 (w32 (gch (dz d) R i 3 + R (28 + i))) x = i := by
                    rw [up_ne q1]
                    unfold UR
                    rw [if_neg q1, if_neg (by omega)]; exact q4.2
                  have hon : onN d i (x - 33) (dn d i).toNat = true := by
                    rcases hw.2.2.2.2.2.1 (x - 33) (by omega) (by omega) with hh | ⟨_, _, k, y1, y2, y3⟩
                    · rw [show 33 + (x - 33) = x by omega] at hh; omega
                    · rw [show 33 + (x - 33) = x by omega, q4.2] at y2 y3
                      exact onB_iff.mpr ⟨k, y1, y2, y3⟩
                  rw [if_pos ⟨hU, q4.1, hon⟩]
                · rw [if_neg q4, if_neg, up_ne q1]
                  rintro ⟨hh, h33, _⟩
                  rw [up_ne q1] at hh
                  unfold UR at hh
                  rw [if_neg q1, if_neg (by omega)] at hh
                  exact q4 ⟨h33, hh⟩
        · simp only
          rw [f3 x (by omega), e6, ms_f (by omega), e5, ms_f (by omega), e4, ms_f (by omega), e3, ms_f (by omega)]
      refine T_bd2 hst ?_
      rintro r3 m3 ⟨j1, j2⟩
      simp only at j1 j2
      exact T_some ⟨h1, j1, fun x hx => by simp only; rw [j2 x hx, k2 x (by omega), ms_f (by omega), h3 x hx]⟩
