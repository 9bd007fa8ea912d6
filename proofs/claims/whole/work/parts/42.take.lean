def URz (z R : Int → Int) (i n : Int) : Int → Int := fun k => if 19 + 3 * i ≤ k ∧ k < 19 + 3 * i + n then 0 else UR z R i n k
theorem URz_s {z R : Int → Int} {i n : Int} (hi : 0 ≤ i ∧ i < 3) (hc : 0 ≤ R (10 + i) ∧ R (10 + i) ≤ 2) (hn : 0 ≤ n ∧ n < 3) :
    up (up (up (URz z R i n) (1 + 3 * R (10 + i) + n) (R (1 + 3 * R (10 + i) + n) + kp R i n)) 32 (gch z R i (n + 1).toNat)) (19 + 3 * i + n) 0 = URz z R i (n + 1) := by
  funext k
  unfold URz
  rw [← UR_s hc hn]
  by_cases q : k = 19 + 3 * i + n
  · rw [q, up_at, if_pos (by omega)]
  · rw [up_ne q]
    by_cases w : 19 + 3 * i ≤ k ∧ k < 19 + 3 * i + n
    · rw [up_ne (by omega), up_ne (by omega), if_pos w, if_pos (by omega)]
    · rw [if_neg (show ¬ (19 + 3 * i ≤ k ∧ k < 19 + 3 * i + (n + 1)) by omega)]
      by_cases v : k = 32
      · rw [v, up_at, up_at]
      · rw [up_ne v, up_ne v]
        by_cases u : k = 1 + 3 * R (10 + i) + n
        · rw [u, up_at, up_at]
        · rw [up_ne u, up_ne u, if_neg w]
theorem tX11_takeUp {g : Shp} {m : Mem} {i : Int} {d : Dt} {R : Int → Int} (hd : WPl d) (hz : m 252 = dz d) (hi : 0 ≤ i ∧ i < dl d) (hr : ∀ k, 0 ≤ k → k < 433 → m 242 k = R k) (hw : WRow d R) (hc : R (10 + i) ≠ -4) (hg1 : gl g 242 = 433) :
    T (bdl (iter (eBX11_takeUp_29 g i) 100000 (0, 0, m)) fun cv12 sv13 => ebX11_takeUp_157 g i sv13.1 sv13.2.2) (fun q => q.1 = rsum (kp R i) 3 ∧ (∀ k, 0 ≤ k → k < 433 → q.2 242 k = takeR (dz d) R i k) ∧ ∀ x, x ≠ 242 → q.2 x = m x) := by
  have hl := hd.1
  have hcc := (hw.2.2.1 i hi.1 (by omega)).resolve_left hc
  have hzb : ∀ s, 0 ≤ s → s < 3 → 0 ≤ dz d s ∧ dz d s ≤ 9 := fun s a b => by
    have := hd.2.1
    rcases (show s = 0 ∨ s = 1 ∨ s = 2 by omega) with e | e | e <;> rw [e] <;> omega
  have hk : ∀ s, 0 ≤ s → s < 3 → 0 ≤ kp R i s ∧ kp R i s ≤ R (19 + 3 * i + s) ∧ R (1 + 3 * R (10 + i) + s) + kp R i s ≤ 6 ∧ R (19 + 3 * i + s) ≤ 6 := fun s a b => kp_r hw ⟨hi.1, by omega⟩ ⟨a, b⟩ hcc
  have hsum : ∀ n : Nat, n ≤ 3 → 0 ≤ rsum (kp R i) n ∧ rsum (kp R i) n ≤ 18 := fun n hn => by
    have a := rsum_0 (f := kp R i) n (fun r a b => (hk r a (by omega)).1)
    have b := rsum_le (f := kp R i) (c := 6) n (fun r a b => by have := hk r a (by omega); omega)
    omega
  refine T_bdl (Q := fun q => q.2.1 = rsum (kp R i) 3 ∧ (∀ k, 0 ≤ k → k < 433 → q.2.2.2 242 k = URz (dz d) R i 3 k) ∧ ∀ x, x ≠ 242 → q.2.2.2 x = m x)
    (iter2 (fun z k m' => 0 ≤ k ∧ k ≤ 3 ∧ z = rsum (kp R i) k.toNat ∧ (∀ j, 0 ≤ j → j < 433 → m' 242 j = URz (dz d) R i k j) ∧ ∀ x, x ≠ 242 → m' x = m x) (fun _ k => (3 - k).toNat)
      ⟨by decide, by decide, rfl, fun k a b => ?_, fun _ _ => rfl⟩ (by decide) ?_) ?_
  · rw [hr k a b]
    unfold URz UR
    rw [if_neg (by omega)]
    by_cases q : k = 32
    · rw [if_pos q, q]; rfl
    · rw [if_neg q, if_neg (by omega)]
  · rintro z k m' ⟨h1, h2, h3, h4, h5⟩
    unfold eBX11_takeUp_29 ebX11_takeUp_29
    simp only
    refine T_if (fun hq => T_out (by decide) ⟨?_, ?_, h5⟩) (fun hq => ?_)
    · simp only
      rw [h3, show k = 3 by omega]; rfl
    · simp only
      rw [show k = 3 by omega] at h4; exact h4
    · have hsk := hsum k.toNat (by omega)
      have hkk := hk k h1 (by omega)
      have hzz := hzb k h1 (by omega)
      have hbk := hw.2.1 (1 + 3 * R (10 + i) + k) (by omega) (by omega)
      have e6 : m' 242 (19 + 3 * i + k) = R (19 + 3 * i + k) := by
        rw [h4 _ (by omega) (by omega)]
        unfold URz UR
        rw [if_neg (by omega), if_neg (by omega), if_neg (by omega)]
      have e3 : m' 242 (10 + i) = R (10 + i) := by
        rw [h4 _ (by omega) (by omega)]
        unfold URz UR
        rw [if_neg (by omega), if_neg (by omega), if_neg (by omega)]
      have e2 : m' 242 (1 + 3 * R (10 + i) + k) = R (1 + 3 * R (10 + i) + k) := by
        rw [h4 _ (by omega) (by omega)]
        unfold URz UR
        rw [if_neg (by omega), if_neg (by omega), if_neg (by omega)]
      have e9 : m' 242 32 = gch (dz d) R i k.toNat := by
        rw [h4 32 (by decide) (by decide)]
        unfold URz UR
        rw [if_neg (by omega), if_pos rfl]
      have ez : m' 252 k = dz d k := by rw [h5 252 (by decide), hz]
      have hm := mul_r (a := R (19 + 3 * i + k) - kp R i k) (b := dz d k) (by omega) hzz
      have fin : T (ebX11_takeUp_96 g i z k (1 + 3 * R (10 + i) + k) (R (19 + 3 * i + k)) (kp R i k) m') (G (fun q => (fun (z k : Int) (m' : Mem) => 0 ≤ k ∧ k ≤ 3 ∧ z = rsum (kp R i) k.toNat ∧ (∀ j, 0 ≤ j → j < 433 → m' 242 j = URz (dz d) R i k j) ∧ ∀ x, x ≠ 242 → m' x = m x) q.1 q.2.1 q.2.2) (fun q => (fun (_ k : Int) => (3 - k).toNat) q.1 q.2.1) ((fun (_ k : Int) => (3 - k).toNat) z k) (fun q => q.2.1 = rsum (kp R i) 3 ∧ (∀ k, 0 ≤ k → k < 433 → q.2.2.2 242 k = URz (dz d) R i 3 k) ∧ ∀ x, x ≠ 242 → q.2.2.2 x = m x)) := by
        unfold ebX11_takeUp_96
        simp (disch := omega) only [w32_id, e2]
        refine T_ck ⟨by omega, by omega⟩ (T_ck ⟨by omega, by omega⟩ (T_vm (T_vv (T_ck (by decide) (T_ck ⟨by omega, by omega⟩ (T_ck (by decide) (T_vm (T_ck ⟨by omega, by omega⟩ (T_vm (T_vv (T_go ⟨by simp only; omega, by simp only; omega, ?_, fun j a b => ?_, fun x hx => ?_⟩ (by simp only; omega))))))))))))
        · simp only
          rw [rsum_s h1, h3]
        · simp only
          rw [← URz_s ⟨hi.1, by omega⟩ hcc ⟨h1, by omega⟩]
          by_cases q : j = 19 + 3 * i + k
          · rw [q, ms_at, up_at]
          · rw [ms_y q, up_ne q]
            by_cases v : j = 32
            · rw [v, ms_at, up_at, gch_s h1, ms_y (by omega), e9, ms_x (by decide), ez, Int.mul_comm (dz d k)]
              rw [w32_id (x := (R (19 + 3 * i + k) - kp R i k) * dz d k) (by omega) (by omega)]
            · rw [ms_y v, up_ne v]
              by_cases u : j = 1 + 3 * R (10 + i) + k
              · rw [u, ms_at, up_at]
              · rw [ms_y u, up_ne u]; exact h4 j a b
        · simp only
          rw [ms_f hx, ms_f hx, ms_f hx]; exact h5 x hx
      simp (disch := omega) only [w32_id, e6, e3]
      refine T_ck ⟨by omega, by omega⟩ (T_vv (T_ck ⟨by omega, by omega⟩ (T_vv (T_ck ⟨by omega, by omega⟩ ?_))))
      simp (disch := omega) only [w32_id, e2]
      refine T_if (fun hle => T_ck ⟨by omega, by omega⟩ ?_) (fun hle => ?_)
      · have : 6 - R (1 + 3 * R (10 + i) + k) = kp R i k := by
          unfold kp
          rw [jmin_v]
          split <;> omega
        rw [this]
        exact fin
      · have : R (19 + 3 * i + k) = kp R i k := by
          unfold kp
          rw [jmin_v]
          split <;> omega
        have fin2 := fin
        rw [← this] at fin2
        exact fin2
  · rintro r ⟨z, k, m'⟩ ⟨h1, h2, h3⟩
    simp only at h1 h2 h3
    unfold ebX11_takeUp_157
    dsimp only
    have e32 : m' 242 32 = gch (dz d) R i 3 := by
      rw [h2 32 (by decide) (by decide)]
      unfold URz UR
      rw [if_neg (by omega), if_pos rfl]; rfl
    have e28 : m' 242 (28 + i) = R (28 + i) := by
      rw [h2 _ (by omega) (by omega)]
      unfold URz UR
      rw [if_neg (by omega), if_neg (by omega), if_neg (by omega)]
    simp (disch := omega) only [w32_id, e32, e28]
    refine T_ck (by decide) (T_ck ⟨by omega, by omega⟩ (T_ck (by decide) (T_vm' ?_)))
    intro m1 f1
    refine T_ck ⟨by omega, by omega⟩ (T_vm' ?_)
    intro m2 f2
    refine T_ck ⟨by omega, by omega⟩ (T_vm' ?_)
    intro m3 f3
    refine T_ck ⟨by omega, by omega⟩ (T_vm' ?_)
    intro m4 f4
    refine T_ck ⟨by omega, by omega⟩ (T_vm' ?_)
    intro m5 f5
    have own : ∀ k, 33 ≤ k → k < 433 → m5 242 k = R k := fun k a b => by
      rw [f5, ms_y (by omega), f4, ms_y (by omega), f3, ms_y (by omega), f2, ms_y (by omega), f1, ms_y (by omega), h2 k (by omega) b]
      unfold URz UR
      rw [if_neg (by omega), if_neg (by omega), if_neg (by omega)]
    have low : ∀ k, 0 ≤ k → k < 33 → m5 242 k = takeR (dz d) R i k := fun k a b => by
      unfold takeR
      by_cases q1 : k = 32
      · rw [if_pos q1, f5, ms_y (by omega), f4, ms_y (by omega), f3, ms_y (by omega), f2, ms_y (by omega), f1, q1, ms_at]
      · rw [if_neg q1]
        by_cases q2 : k = 10 + i
        · rw [if_pos q2, f5, q2, ms_at]
        · rw [if_neg q2, f5, ms_y q2]
          by_cases q3 : k = 16 + i
          · rw [if_pos (by omega), f4, q3, ms_at]
          · rw [f4, ms_y q3]
            by_cases q4 : k = 13 + i
            · rw [if_pos (by omega), f3, q4, ms_at]
            · rw [f3, ms_y q4]
              by_cases q5 : k = 28 + i
              · rw [if_pos (by omega), f2, q5, ms_at]
              · rw [f2, ms_y q5, f1, ms_y q1, h2 k a (by omega)]
                unfold URz
                by_cases q6 : 19 + 3 * i ≤ k ∧ k < 19 + 3 * i + 3
                · rw [if_pos q6, if_pos (by omega)]
                · rw [if_neg q6, if_neg (by omega), if_neg (by omega)]
    refine T_bdl (Q := fun q => (∀ k, 0 ≤ k → k < 433 → q.2.2 242 k = takeR (dz d) R i k) ∧ ∀ x, x ≠ 242 → q.2.2 x = m x)
      (iter1 (fun k m' => 33 ≤ k ∧ k ≤ 433 ∧ (∀ j, 0 ≤ j → j < k → m' 242 j = takeR (dz d) R i j) ∧ (∀ j, k ≤ j → j < 433 → m' 242 j = R j) ∧ ∀ x, x ≠ 242 → m' x = m x) (fun k => (433 - k).toNat)
        ⟨by decide, by decide, low, own, fun x hx => by rw [f5, ms_f hx, f4, ms_f hx, f3, ms_f hx, f2, ms_f hx, f1, ms_f hx]; exact h3 x hx⟩ (by decide) ?_) ?_
    · rintro k m' ⟨a1, a2, a3, a4, a5⟩
      unfold eBX11_takeUp_220 ebX11_takeUp_220 ebX11_takeUp_253
      simp only
      refine T_if (fun hq => T_out (by decide) ⟨fun j a b => a3 j a (by omega), a5⟩) (fun hq => T_ck ⟨by omega, by omega⟩ ?_)
      have ek := a4 k (by omega) (by omega)
      have tk : takeR (dz d) R i k = if R k = i then -4 else R k := by
        unfold takeR UR
        rw [if_neg (by omega), if_neg (by omega), if_neg (by omega)]
        by_cases q : R k = i
        · rw [if_pos ⟨a1, q⟩, if_pos q]
        · rw [if_neg (by omega), if_neg q, if_neg (by omega), if_neg (by omega)]
      rw [w32_id (by omega) (by omega)]
      refine T_if (fun he => T_ck ⟨by omega, by omega⟩ (T_vm (T_vv (T_go ⟨by simp only; omega, by simp only; omega, fun j a b => ?_, fun j a b => ?_, fun x hx => ?_⟩ (by simp only; omega))))) (fun he => T_ck ⟨by omega, by omega⟩ (T_ck ⟨by omega, by omega⟩ (T_vm (T_vv (T_go ⟨by simp only; omega, by simp only; omega, fun j a b => ?_, fun j a b => ?_, fun x hx => ?_⟩ (by simp only; omega))))))
      · simp only at b ⊢
        by_cases q : j = k
        · rw [q, ms_at, tk, if_pos (by rw [← ek]; exact he)]
        · rw [ms_y q]; exact a3 j a (by omega)
      · simp only at a ⊢
        rw [ms_y (by omega)]; exact a4 j (by omega) b
      · simp only
        rw [ms_f hx]; exact a5 x hx
      · simp only at b ⊢
        by_cases q : j = k
        · rw [q, ms_at, tk, if_neg (by rw [← ek]; exact he), ek]
        · rw [ms_y q]; exact a3 j a (by omega)
      · simp only at a ⊢
        rw [ms_y (by omega)]; exact a4 j (by omega) b
      · simp only
        rw [ms_f hx]; exact a5 x hx
    · rintro c ⟨k, m6⟩ ⟨b1, b2⟩
      exact T_some ⟨h1, b1, b2⟩
