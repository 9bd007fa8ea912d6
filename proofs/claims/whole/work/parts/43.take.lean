theorem WRow.take {d : Dt} {R z : Int → Int} {i : Int} (hl : dl d ≤ 3) (hw : WRow d R) (hi : 0 ≤ i ∧ i < 3) (hc : R (10 + i) ≠ -4) : WRow d (takeR z R i) := by
  have hcc := (hw.2.2.1 i hi.1 (by omega)).resolve_left hc
  obtain ⟨w1, w2, w3, w4, w5, w6, w7⟩ := id hw
  have e10 : ∀ j, 0 ≤ j → j < 3 → takeR z R i (10 + j) = if j = i then -4 else R (10 + j) := fun j a b => by
    unfold takeR UR
    rw [if_neg (by omega)]
    by_cases q : j = i
    · rw [if_pos (by omega), if_pos q]
    · rw [if_neg (by omega), if_neg (by omega), if_neg (by omega), if_neg (by omega), if_neg (by omega), if_neg q]
  have e19 : ∀ j s, 0 ≤ j → j < 3 → 0 ≤ s → s < 3 → takeR z R i (19 + 3 * j + s) = if j = i then 0 else R (19 + 3 * j + s) := fun j s a b c e => by
    unfold takeR UR
    rw [if_neg (by omega), if_neg (by omega)]
    by_cases q : j = i
    · rw [if_pos (by omega), if_pos q]
    · rw [if_neg (by omega), if_neg (by omega), if_neg (by omega), if_neg (by omega), if_neg q]
  have e28 : ∀ j, 0 ≤ j → j < 3 → takeR z R i (28 + j) = if j = i then 0 else R (28 + j) := fun j a b => by
    unfold takeR UR
    rw [if_neg (by omega), if_neg (by omega)]
    by_cases q : j = i
    · rw [if_pos (by omega), if_pos q]
    · rw [if_neg (by omega), if_neg (by omega), if_neg (by omega), if_neg (by omega), if_neg q]
  refine ⟨?_, fun k a b => ?_, fun j a b => ?_, fun j a b c => ?_, fun j s a b c e => ?_, fun c a b => ?_, by unfold takeR; rw [if_pos rfl]; exact w32_w _⟩
  · have : takeR z R i 0 = R 0 := by
      unfold takeR UR
      rw [if_neg (by omega), if_neg (by omega), if_neg (by omega), if_neg (by omega), if_neg (by omega), if_neg (by omega)]
    rw [this]; exact w1
  · unfold takeR UR
    rw [if_neg (by omega), if_neg (by omega), if_neg (by omega), if_neg (by omega), if_neg (by omega)]
    have hb := w2 k a b
    by_cases q : 1 + 3 * R (10 + i) ≤ k ∧ k < 1 + 3 * R (10 + i) + 3
    · rw [if_pos q]
      have := kp_r hw hi (s := k - 1 - 3 * R (10 + i)) (by omega) hcc
      rw [show 1 + 3 * R (10 + i) + (k - 1 - 3 * R (10 + i)) = k by omega] at this
      omega
    · rw [if_neg q]; exact hb
  · rw [e10 j a b]
    by_cases q : j = i
    · rw [if_pos q]; exact Or.inl rfl
    · rw [if_neg q]; exact w3 j a b
  · rw [e10 j a b] at c
    rw [e28 j a b]
    by_cases q : j = i
    · rw [if_pos q]
      exact ⟨rfl, fun s u v => by rw [e19 j s a b u v, if_pos q]⟩
    · rw [if_neg q] at c ⊢
      exact ⟨(w4 j a b c).1, fun s u v => by rw [e19 j s a b u v, if_neg q]; exact (w4 j a b c).2 s u v⟩
  · rw [e19 j s a b c e]
    split
    · decide
    · exact w5 j s a b c e
  · have e33 : takeR z R i (33 + c) = if R (33 + c) = i then -4 else R (33 + c) := by
      unfold takeR UR
      rw [if_neg (by omega), if_neg (by omega), if_neg (by omega)]
      by_cases q : R (33 + c) = i
      · rw [if_pos ⟨by omega, q⟩, if_pos q]
      · rw [if_neg (by omega), if_neg q, if_neg (by omega), if_neg (by omega)]
    rw [e33]
    by_cases q : R (33 + c) = i
    · rw [if_pos q]; exact Or.inl rfl
    · rw [if_neg q]
      rcases w6 c a b with u | ⟨u1, u2, u3⟩
      · exact Or.inl u
      · refine Or.inr ⟨u1, ?_, u3⟩
        rw [e10 _ u1.1 (by omega), if_neg q]
        exact u2
theorem op_takeUp {g : Shp} {m : Mem} {x : Int} (hg1 : gl g 242 = 433) (hg2 : gl g 244 = 2598) (hg3 : gl g (m 1 6 + 1) = 3) (hg4 : gl g 91 = 9) (h : Core m) : Two (eX10_takeUp g x m) (eX11_takeUp g x) (Done m) := by
  obtain ⟨ht, hp, hs, hpl, ⟨hr0, hw0⟩, ⟨q1, q2, q3⟩⟩ := id h
  have rf := Done.rf h
  have hl := hp.1
  unfold Two eX10_takeUp ebX10_takeUp_0
  refine T_bd2 (tX10_isLine hpl.2.1) ?_
  intro r m' q
  cases q
  by_cases hx : 0 ≤ x ∧ x < dl (dt m)
  case neg =>
    rw [if_neg hx]
    refine T_it rfl (T2 ?_)
    unfold eX11_takeUp ebX11_takeUp_0
    refine T_bd2 (tX11_isLine hl) ?_
    intro r m' q
    cases q
    rw [if_neg hx]
    exact T_it rfl (T_r rfl rf)
  rw [if_pos hx]
  refine T_ie (by decide) (T_bd2 (tX1_isCovered ⟨by omega, by omega⟩) ?_)
  intro r m' q
  cases q
  rw [hr0 _ (by omega) (by omega)]
  by_cases ho : m 242 (10 + x) = -4
  · rw [if_pos ho]
    refine T_it rfl (T2 ?_)
    unfold eX11_takeUp ebX11_takeUp_0
    refine T_bd2 (tX11_isLine hl) ?_
    intro r m' q
    cases q
    rw [if_pos hx]
    refine T_ie (by decide) (T_bd2 (tX11_isCovered ⟨by omega, by omega⟩) ?_)
    intro r m' q
    cases q
    rw [if_pos ho]
    exact T_it rfl (T_r rfl rf)
  · rw [if_neg ho]
    refine T_ie (by decide) (T_bd2 (tBC q1) ?_)
    intro r m1 hb
    simp only at hb
    have b8 := hb.2.2.2.2
    have hP : 177 ≤ m 1 6 ∧ m 1 6 ≤ 191 := by rcases hs with hs | hs <;> omega
    have e1 : m1 1 = m 1 := b8 1 (by decide) (by decide) (by decide)
    have row1 : RowEq (rowC m1 85) (m 242) := by
      rw [rowC_c (m := m) (fun a u v => b8 a (by omega) (by omega) (by omega))]
      exact hr0
    rw [e1, show m 1 6 + 3 + (2 + 3 * x) = m 1 6 + 5 + 3 * x by omega]
    refine T_ck ⟨by omega, by omega⟩ (T_bd2 (tX1_pickUp (d := dt m) hp hx (hpl.c hl.2 (fun a u v => b8 a (by omega) (by omega) (by omega))) (by omega) row1 hw0 ho hg3 hg4) ?_)
    rintro r2 m2 ⟨k1, k2, k3⟩
    simp only at k1 k2 k3
    refine T2 ?_
    have e2 : ∀ a, a ≠ 143 → (a < 85 ∨ 142 < a) → (a < 205 ∨ 237 < a) → m2 a = m a := fun a u v w => by rw [k3 a (by omega), b8 a u (by omega) w]
    have e42 : m2 242 = m 242 := e2 242 (by decide) (by decide) (by decide)
    have e41 : m2 241 = m 241 := e2 241 (by decide) (by decide) (by decide)
    have hd : dt m2 = dt m := dt_c (by rw [e41]) (fun a u v => e2 a (by omega) (by omega) (by omega))
    unfold eX11_takeUp ebX11_takeUp_0
    refine T_bd2 (tX11_isLine (by rw [hd]; exact hl)) ?_
    intro r m' q
    cases q
    rw [hd, if_pos hx]
    refine T_ie (by decide) (T_bd2 (tX11_isCovered ⟨by omega, by omega⟩) ?_)
    intro r m' q
    cases q
    rw [e42, if_neg ho]
    have q0 := q1.1
    refine T_ie (by decide) (T_bd2 (tNT hg1 hg2 (by rw [e41]; omega)) ?_)
    intro r3 m3 hn
    simp only at hn
    have e3 : ∀ a, a ≠ 241 → a ≠ 244 → m3 a = m2 a := hn.2.2
    refine T_mono (tX11_takeUp (d := dt m) (R := m 242) hp (by rw [e3 252 (by decide) (by decide), e2 252 (by decide) (by decide) (by decide)]; rfl) hx (fun k a b => by rw [e3 242 (by decide) (by decide), e42]) hw0 ho hg1) ?_
    rintro ⟨r4, m4⟩ ⟨j1, j2, j3⟩
    simp only at j1 j2 j3 ⊢
    have j2' : RowEq (m4 242) (takeR (dz (dt m)) (m 242) x) := j2
    refine ⟨by rw [k1, j1], Done.ch h hb (m2 := m2) (fun a ha => k3 a (by omega)) hn (fun a a1 a2 a3 a4 => j3 a a2) ⟨by rw [j3 241 (by decide)], by rw [j3 241 (by decide)], by rw [j3 241 (by decide)]⟩ (k2.tr j2'.sy) (WRow.c hl.2 (WRow.take hl.2 hw0 ⟨hx.1, by omega⟩ ho) j2')⟩
/-! ===== line ===== -/
theorem rsum_z {f : Int → Int} (n : Nat) (h : ∀ r : Int, 0 ≤ r → r < n → f r = 0) : rsum f n = 0 := by
  rw [rsum_c (f' := fun _ => 0) n h]
  have a := rsum_0 (f := fun _ => 0) n (fun _ _ _ => Int.le_refl 0)
  have b := rsum_le (f := fun _ => 0) (c := 0) n (fun _ _ _ => Int.le_refl 0)
  omega
theorem rsum_one {f : Int → Int} {k : Int} (hk : 0 ≤ k) : ∀ n : Nat, k < n → (∀ r : Int, 0 ≤ r → r < n → r ≠ k → f r = 0) → rsum f n = f k
  | 0, h, _ => by omega
  | n + 1, h, hz => by
    by_cases q : k = n
    · have := rsum_z (f := f) n (fun r a b => hz r a (by omega) (by omega))
      unfold rsum
      rw [this, q]
      omega
    · have := rsum_one hk n (by omega) (fun r a b c => hz r a (by omega) c)
      have h2 := hz n (by omega) (by omega) (by omega)
      unfold rsum
      rw [this, h2]
      omega
/-- a sum over places is a sum over the cells of a path, if all that count lie on it -/
theorem rsum_path {p ce : Int → Int} {N : Nat} (hd : ∀ k j : Int, 0 ≤ k → k < j → j < N → ce k ≠ ce j) : ∀ M : Nat, (∀ c : Int, 0 ≤ c → c < M → p c = 0 ∨ ∃ k : Int, 0 ≤ k ∧ k < N ∧ ce k = c) → (∀ k : Int, 0 ≤ k → k < N → 0 ≤ ce k) →
    rsum (fun k => if ce k < M then p (ce k) else 0) N = rsum p M
  | 0, _, h0 => rsum_z N (fun r a b => by rw [if_neg]; have := h0 r a b; omega)
  | M + 1, h, h0 => by
    have ih := rsum_path hd M (fun c a b => h c a (by omega)) h0
    have e : rsum (fun k => if ce k < ((M + 1 : Nat) : Int) then p (ce k) else 0) N = rsum (fun k => (if ce k < (M : Int) then p (ce k) else 0) + (if ce k = (M : Int) then p M else 0)) N := rsum_c N (fun r a b => by
      by_cases q : ce r = M
      · rw [q, if_pos (by omega), if_neg (by omega), if_pos rfl]; omega
      · by_cases w : ce r < M
        · rw [if_pos (by omega), if_pos w, if_neg q]; omega
        · rw [if_neg (by omega), if_neg w, if_neg q]; rfl)
    rw [e, rsum_p, ih]
    show _ = rsum p M + p M
    congr 1
    rcases h M (by omega) (by omega) with hz | ⟨k, k1, k2, k3⟩
    · rw [hz]
      exact rsum_z N (fun r a b => by split <;> rfl)
    · rw [rsum_one k1 N k2 (fun r a b c => by
        rw [if_neg]
        intro hh
        by_cases q : r < k
        · exact hd r k a q k2 (by rw [hh, k3])
        · exact hd k r k1 (by omega) b (by rw [hh, k3])), if_pos k3]
def ownI (R : Int → Int) (i : Int) (c : Int) : Int := if R (33 + c) = i then 1 else 0
theorem own_eq {d : Dt} {R : Int → Int} {i : Int} (hi : 0 ≤ i ∧ i < dl d) (hw : WRow d R) (hl : WLine d i) : rsum (fun k => ownI R i (dc d i k)) (dn d i).toNat = rsum (ownI R i) 400 := by
  have hm := hl.mx
  rw [← rsum_path (p := ownI R i) (ce := dc d i) (N := (dn d i).toNat) (fun k j a b c => hl.2.2.2.2 k j a b (by omega)) 400 (fun c a b => ?_) (fun k a b => (hl.2.2.2.1 k a (by omega)).1)]
  · exact rsum_c _ (fun r a b => by rw [if_pos (by have := hl.2.2.2.1 r a (by omega); omega)])
  · unfold ownI
    by_cases q : R (33 + c) = i
    · right
      rcases hw.2.2.2.2.2.1 c a (by omega) with u | ⟨_, _, k, u1, u2, u3⟩
      · omega
      · rw [q] at u2 u3
        exact ⟨k, u1, by omega, u3⟩
    · left; rw [if_neg q]
theorem ownI_r (R : Int → Int) (i c : Int) : 0 ≤ ownI R i c ∧ ownI R i c ≤ 1 := by unfold ownI; split <;> decide
theorem tX1_cellsOf {g : Shp} {m : Mem} {f P i : Int} {d : Dt} {R : Int → Int} (hi : 0 ≤ i ∧ i < dl d) (hw : WLine d i) (hp : IPl m P d) (hr : RowEq (rowC m f) R) :
    T (eX1_cellsOf g f i (P + 5 + 3 * i) m) (fun q => q = (rsum (fun k => ownI R i (dc d i k)) (dn d i).toNat, m)) := by
  have hn := hw.mx
  obtain ⟨p1, p2, p3, _⟩ := hp.2.2.1 i hi.1 hi.2
  unfold eX1_cellsOf ebX1_cellsOf_0
  refine T_bdl (Q := fun q => q.2.2.2 = m ∧ q.2.1 = rsum (fun k => ownI R i (dc d i k)) (dn d i).toNat)
    (iter2 (fun z k m' => m' = m ∧ 0 ≤ k ∧ k ≤ dn d i ∧ z = rsum (fun k => ownI R i (dc d i k)) k.toNat) (fun _ k => (60 - k).toNat)
      ⟨rfl, by decide, by omega, rfl⟩ (by decide) ?_) ?_
  · rintro z k m' ⟨rfl, h1, h2, h3⟩
    unfold eBX1_cellsOf_5 ebX1_cellsOf_5 ebX1_cellsOf_33
    simp only [p1]
    have hz := rsum_01 (f := fun k => ownI R i (dc d i k)) k.toNat (fun r a b => ownI_r R i _)
    refine T_if (fun hc => T_out (by decide) ⟨rfl, ?_⟩) (fun hc => ?_)
    · simp only
      rw [h3, show k = dn d i by omega]
    · have e3 := p3 k h1 (by omega)
      have hcr := hw.2.2.2.1 k h1 (by omega)
      have e1 : m' (f + 1) (dc d i k) = R (33 + dc d i k) := by rw [← hr _ (by omega) (by omega), rowC_o hcr.1]
      simp (disch := omega) only [e3, e1, w32_id]
      refine T_ck ⟨by omega, by omega⟩ (T_ck ⟨by omega, by omega⟩ (T_if (fun he => T_vv (T_vv (T_go ⟨rfl, by simp only; omega, by simp only; omega, ?_⟩ (by simp only; omega)))) (fun he => T_vv (T_go ⟨rfl, by simp only; omega, by simp only; omega, ?_⟩ (by simp only; omega)))))
      · simp only
        rw [rsum_s h1, h3]
        unfold ownI
        rw [if_pos he]
      · simp only
        rw [rsum_s h1, h3]
        unfold ownI
        rw [if_neg he]
        omega
  · rintro r ⟨z, k, m'⟩ ⟨h1, h2⟩
    simp only at h1 h2
    exact T_some (by simp only; rw [h1, h2])
theorem tX11_ownMany {g : Shp} {m : Mem} {i : Int} : T (eX11_ownMany g i m) (fun q => q.2 = m ∧ q.1 = rsum (ownI (m 242) i) 400) := by
  unfold eX11_ownMany ebX11_ownMany_0
  refine T_bdl (Q := fun q => q.2.2.2 = m ∧ q.2.1 = rsum (ownI (m 242) i) 400)
    (iter2 (fun z k m' => m' = m ∧ 0 ≤ k ∧ k ≤ 400 ∧ z = rsum (ownI (m 242) i) k.toNat) (fun _ k => (400 - k).toNat)
      ⟨rfl, by decide, by omega, rfl⟩ (by decide) ?_) ?_
  · rintro z k m' ⟨rfl, h1, h2, h3⟩
    unfold eBX11_ownMany_4 ebX11_ownMany_4 ebX11_ownMany_30
    simp only
    have hz := rsum_01 (f := ownI (m' 242) i) k.toNat (fun r a b => ownI_r _ i _)
    refine T_if (fun hc => T_out (by decide) ⟨rfl, ?_⟩) (fun hc => ?_)
    · simp only
      rw [h3, show k = 400 by omega]; rfl
    · simp (disch := omega) only [w32_id]
      refine T_ck ⟨by omega, by omega⟩ (T_if (fun he => T_vv (T_vv (T_go ⟨rfl, by simp only; omega, by simp only; omega, ?_⟩ (by simp only; omega)))) (fun he => T_vv (T_vv (T_go ⟨rfl, by simp only; omega, by simp only; omega, ?_⟩ (by simp only; omega)))))
      · simp only
        rw [rsum_s h1, h3]
        unfold ownI
        rw [if_pos he]
      · simp only
        rw [rsum_s h1, h3]
        unfold ownI
        rw [if_neg he]
  · rintro r ⟨z, k, m'⟩ ⟨h1, h2⟩
    exact T_some ⟨h1, h2⟩
theorem op_line {g : Shp} {m : Mem} {x y : Int} (h : Core m) : Two (eX10_line g x y m) (eX11_line g x y) (Done m) := by
  obtain ⟨ht, hp, hs, hpl, ⟨hr0, hw0⟩, ⟨q1, q2, q3⟩⟩ := id h
  have rf := Done.rf h
  have hl := hp.1
  unfold Two eX10_line ebX10_line_0
  refine T_bd2 (tX10_isLine hpl.2.1) ?_
  intro r m' q
  cases q
  by_cases hx : 0 ≤ x ∧ x < dl (dt m)
  case neg =>
    rw [if_neg hx]
    refine T_it rfl (T2 ?_)
    unfold eX11_line ebX11_line_0
    refine T_bd2 (tX11_isLine hl) ?_
    intro r m' q
    cases q
    rw [if_neg hx]
    exact T_it rfl (T_r rfl rf)
  rw [if_pos hx]
  have hwl := hp.2.2 x hx.1 hx.2
  obtain ⟨p1, p2, p3, p4⟩ := hpl.2.2.1 x hx.1 hx.2
  have eP : m 1 6 + 3 + (2 + 3 * x) = m 1 6 + 5 + 3 * x := by omega
  have hin : ∀ (P : Int × Mem → Prop), T (if y = 0 then
      ck ((0 : Int) ≤ x ∧ x < 3) <|
      some (m 253 x, m)
    else
      if y = 1 then
        ck ((0 : Int) ≤ x ∧ x < 3) <|
        some (m 255 x, m)
      else
        if y = 2 then
          ck ((0 : Int) ≤ x ∧ x < 3) <|
          some (w32 ((m 253 x) - 1), m)
        else
          if y = 3 then
            ck ((0 : Int) ≤ (w32 (10 + x)) ∧ (w32 (10 + x)) < 433) <|
            some (m 242 (w32 (10 + x)), m)
          else
            if y = 4 then
              bd2 (eX11_ownMany g x m) fun v18 m19 =>
              some (v18, m19)
            else
              if y = 5 then
                ck ((0 : Int) ≤ (w32 (13 + x)) ∧ (w32 (13 + x)) < 433) <|
                some (m 242 (w32 (13 + x)), m)
              else
                if y = 6 then
                  ck ((0 : Int) ≤ (w32 (16 + x)) ∧ (w32 (16 + x)) < 433) <|
                  some (m 242 (w32 (16 + x)), m)
                else
                  some ((-1), m)) P → T (eX11_line g x y m) P := by
    intro P hP
    unfold eX11_line ebX11_line_0
    refine T_bd2 (tX11_isLine hl) ?_
    intro r m' q
    cases q
    rw [if_pos hx]
    exact T_ie (by decide) hP
  simp (disch := omega) only [w32_id (x := 10 + x), w32_id (x := 13 + x), w32_id (x := 16 + x)] at hin
  rw [eP]
  refine T_ie (by decide) (T_if (fun h0 => T_ck ⟨by omega, by omega⟩ (T2 (hin _ (T_it h0 (T_ck ⟨by omega, by omega⟩ (T_r p2 rf)))))) (fun h0 => T_if (fun h1 => T_ck ⟨by omega, by omega⟩ (T2 (hin _ (T_ie h0 (T_it h1 (T_ck ⟨by omega, by omega⟩ (T_r p1 rf))))))) (fun h1 => T_if (fun h2 => T_ck ⟨by omega, by omega⟩ (T2 (hin _ (T_ie h0 (T_ie h1 (T_it h2 (T_ck ⟨by omega, by omega⟩ (T_r (by rw [p2]; rfl) rf)))))))) (fun h2 => T_if (fun h3 => T_ck ⟨by omega, by omega⟩ (T2 (hin _ (T_ie h0 (T_ie h1 (T_ie h2 (T_it h3 (T_ck ⟨by omega, by omega⟩ (T_r ?_ rf))))))))) (fun h3 => T_if (fun h4 => T_ck ⟨by omega, by omega⟩ ?_) (fun h4 => T_if (fun h5 => T_ck ⟨by omega, by omega⟩ (T2 (hin _ (T_ie h0 (T_ie h1 (T_ie h2 (T_ie h3 (T_ie h4 (T_it h5 (T_ck ⟨by omega, by omega⟩ (T_r ?_ rf))))))))))) (fun h5 => T_if (fun h6 => T_ck ⟨by omega, by omega⟩ (T2 (hin _ (T_ie h0 (T_ie h1 (T_ie h2 (T_ie h3 (T_ie h4 (T_ie h5 (T_it h6 (T_ck ⟨by omega, by omega⟩ (T_r ?_ rf)))))))))))) (fun h6 => T2 (hin _ (T_ie h0 (T_ie h1 (T_ie h2 (T_ie h3 (T_ie h4 (T_ie h5 (T_ie h6 (T_r rfl rf)))))))))))))))))
  · rw [← hr0 _ (by omega) (by omega), rowC_c' (by omega)]; rfl
  · refine T_bd2 (tX1_cellsOf hx hwl hpl hr0) ?_
    intro r m' q
    obtain ⟨e1, e2⟩ := Prod.mk.inj q
    rw [e1, e2]
    refine T2 (hin _ (T_ie h0 (T_ie h1 (T_ie h2 (T_ie h3 (T_it h4 (T_bd2 tX11_ownMany ?_)))))))
    rintro r3 m3 ⟨k1, k2⟩
    simp only at k1 k2
    rw [k1, k2]
    exact T_r (own_eq hx hw0 hwl) rf
  · rw [← hr0 _ (by omega) (by omega), rowC_s (by omega)]; rfl
  · rw [← hr0 _ (by omega) (by omega), rowC_k (by omega)]; rfl
