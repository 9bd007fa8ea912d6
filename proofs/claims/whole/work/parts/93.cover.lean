/-- the reference's row behind n stones -/
noncomputable def cbR (d : Dt) (R : Int → Int) (i c : Int) (n : Nat) : Int → Int := fun k =>
  if k = 32 then w32 (R 32 + nsum (woff (dz d) (sR d R i c)) n)
  else if 1 + 3 * c ≤ k ∧ k < 4 + 3 * c then R k - nsum (wused (sR d R i c) (k - 1 - 3 * c)) n
  else if 19 + 3 * i ≤ k ∧ k < 22 + 3 * i then nsum (wsnd (dz d) (sR d R i c) (k - 19 - 3 * i)) n
  else if k = 28 + i then nsum (wspo (dz d) (sR d R i c)) n
  else R k
theorem w32_r (x : Int) : -2147483648 ≤ w32 x ∧ w32 x < 2147483648 := by
  unfold w32
  have h1 := Int.le_bmod (x := x) (m := 4294967296) (by decide)
  have h2 := Int.bmod_lt (x := x) (m := 4294967296) (by decide)
  omega
theorem tX11_coverBy {g : Shp} {m : Mem} {d : Dt} {R : Int → Int} {i c : Int} (hd : WPl d) (hdt : dt m = d) (hi : 0 ≤ i ∧ i < dl d) (hr : ∀ k, 0 ≤ k → k < 433 → m 242 k = R k) (hW : WRow d R) (ho : R (10 + i) = -4) (hc : 0 ≤ c ∧ c ≤ 2) (hC : cR d R i c ≠ 1000000) (hw : RWay m d R i c) (hWS : WSq (dz d) (sR d R i c) (cR d R i c % 32).toNat) (hg : gl g 242 = 433) :
    T (eX11_coverBy g i c m) (fun q => RowEq (q.2 242) (covR d R i c) ∧ ∀ x, x ≠ 242 → q.2 x = m x) := by
  have hl := hd.1.2
  have h32 : w32 (R 32) = R 32 := hW.2.2.2.2.2.2
  have hcm : 0 ≤ cR d R i c % 32 := by omega
  have hcb := (cR_b (i := i) (c := c) hd hW hc).resolve_left hC
  obtain ⟨y1, y2, y3⟩ := hw
  have hz0 := hW.2.2.2.1 i hi.1 (by omega) ho
  have e252 : m 252 = dz d := by rw [← hdt]; rfl
  have e255 : m 255 = dn d := by rw [← hdt]; rfl
  have e256 : ∀ k, m 256 (60 * i + k) = dc d i k := fun k => by rw [← hdt]; rfl
  unfold eX11_coverBy ebX11_coverBy_0
  refine T_bdl (Q := fun r => RowEq (r.2.2 242) (cbR d R i c (cR d R i c % 32).toNat) ∧ ∀ x, x ≠ 242 → r.2.2 x = m x)
    (iter1 (fun n m' => (0 ≤ n ∧ n ≤ cR d R i c % 32) ∧ RowEq (m' 242) (cbR d R i c n.toNat) ∧ ∀ x, x ≠ 242 → m' x = m x) (fun n => (18 - n).toNat) ⟨by omega, ?_, fun _ _ => rfl⟩ (by decide) ?_) ?_
  · intro k k0 k1
    rw [hr k k0 k1]
    show R k = cbR d R i c 0 k
    unfold cbR
    by_cases q1 : k = 32
    · rw [if_pos q1, q1]
      show R 32 = w32 (R 32 + 0)
      rw [Int.add_zero, h32]
    · rw [if_neg q1]
      by_cases q2 : 1 + 3 * c ≤ k ∧ k < 4 + 3 * c
      · rw [if_pos q2]
        show R k = R k - 0
        omega
      · rw [if_neg q2]
        by_cases q3 : 19 + 3 * i ≤ k ∧ k < 22 + 3 * i
        · rw [if_pos q3]
          have := hz0.2 (k - 19 - 3 * i) (by omega) (by omega)
          rw [show 19 + 3 * i + (k - 19 - 3 * i) = k by omega] at this
          exact this
        · rw [if_neg q3]
          by_cases q4 : k = 28 + i
          · rw [if_pos q4, q4]; exact hz0.1
          · rw [if_neg q4]
  · rintro n m' ⟨n1, n2, n3⟩
    unfold eBX11_coverBy_2 ebX11_coverBy_2
    simp only
    rw [n3 241 (by decide), y2]
    refine T_if (fun cc => T_out (by decide) ⟨?_, n3⟩) (fun cc => ?_)
    · rw [show cR d R i c % 32 = n by omega]; exact n2
    · obtain ⟨z1, z2, z3⟩ := y3 n.toNat (by omega)
      obtain ⟨⟨t1, t2⟩, ⟨t3, t4, t5⟩, t6⟩ := hWS n.toNat (by omega)
      rw [show ((n.toNat : Nat) : Int) = n by omega] at z1 z2 z3
      rw [n3 264 (by decide), n3 263 (by decide), n3 252 (by decide), n3 265 (by decide), z1, z2, z3, e252]
      have es : (n + 1).toNat = n.toNat + 1 := by omega
      have hbb := WSq.b (n := n.toNat) (fun j hj => hWS j (by omega)) (by omega)
      have hub := hbb.1 ((sR d R i c).2.1 n.toNat)
      have hsb := hbb.2.1 ((sR d R i c).2.1 n.toNat)
      have hR6 := hW.2.1 (1 + 3 * c + (sR d R i c).2.1 n.toNat) (by omega) (by omega)
      have eW : nsum (wused (sR d R i c) ((sR d R i c).2.1 n.toNat)) (n.toNat + 1) = nsum (wused (sR d R i c) ((sR d R i c).2.1 n.toNat)) n.toNat + 1 := by
        show _ + wused (sR d R i c) ((sR d R i c).2.1 n.toNat) n.toNat = _
        unfold wused
        rw [if_pos rfl]
      have eWo : ∀ s', s' ≠ (sR d R i c).2.1 n.toNat → nsum (wused (sR d R i c) s') (n.toNat + 1) = nsum (wused (sR d R i c) s') n.toNat := by
        intro s' hs'
        show _ + wused (sR d R i c) s' n.toNat = _
        unfold wused
        rw [if_neg (fun q => hs' q.symm)]
        show nsum (wused (sR d R i c) s') n.toNat + 0 = nsum (wused (sR d R i c) s') n.toNat
        omega
      have eO : nsum (woff (dz d) (sR d R i c)) (n.toNat + 1) = nsum (woff (dz d) (sR d R i c)) n.toNat + (dz d ((sR d R i c).2.1 n.toNat) - (sR d R i c).1 n.toNat) := rfl
      generalize hS : (sR d R i c).2.1 n.toNat = S at *
      generalize hL : (sR d R i c).1 n.toNat = L at *
      have yL : w32 (dz d S - L) = dz d S - L := w32_id (by omega) (by omega)
      have y4 : w32 (w32 (1 + w32 (3 * c)) + S) = 1 + 3 * c + S := by rw [w32_id (x := 3 * c) (by omega) (by omega), w32_id (x := 1 + 3 * c) (by omega) (by omega), w32_id (by omega) (by omega)]
      have y5 : w32 (w32 (19 + w32 (3 * i)) + S) = 19 + 3 * i + S := by rw [w32_id (x := 3 * i) (by omega) (by omega), w32_id (x := 19 + 3 * i) (by omega) (by omega), w32_id (by omega) (by omega)]
      have y6 : w32 (28 + i) = 28 + i := w32_id (by omega) (by omega)
      have b1 : m' 242 (1 + 3 * c + S) = R (1 + 3 * c + S) - nsum (wused (sR d R i c) S) n.toNat := by
        rw [n2 _ (by omega) (by omega)]
        unfold cbR
        rw [if_neg (by omega), if_pos (by omega), show 1 + 3 * c + S - 1 - 3 * c = S by omega]
      have b2 : m' 242 32 = w32 (R 32 + nsum (woff (dz d) (sR d R i c)) n.toNat) := by
        rw [n2 32 (by decide) (by decide)]
        unfold cbR
        rw [if_pos rfl]
      have b3 : m' 242 (19 + 3 * i + S) = nsum (wsnd (dz d) (sR d R i c) S) n.toNat := by
        rw [n2 _ (by omega) (by omega)]
        unfold cbR
        rw [if_neg (by omega), if_neg (by omega), if_pos (by omega), show 19 + 3 * i + S - 19 - 3 * i = S by omega]
      have b4 : m' 242 (28 + i) = nsum (wspo (dz d) (sR d R i c)) n.toNat := by
        rw [n2 _ (by omega) (by omega)]
        unfold cbR
        rw [if_neg (by omega), if_neg (by omega), if_neg (by omega), if_pos rfl]
      have main : ∀ z0 : Int, (z0 = 1 ∧ (¬ L < dz d S ∧ (sR d R i c).2.2 n.toNat = 0) ∨ z0 = 0 ∧ ¬ (¬ L < dz d S ∧ (sR d R i c).2.2 n.toNat = 0)) → T (ebX11_coverBy_53 g i c n S (dz d S - L) z0 m') (G (fun q => (fun (n : Int) (m' : Mem) => (0 ≤ n ∧ n ≤ cR d R i c % 32) ∧ RowEq (m' 242) (cbR d R i c n.toNat) ∧ ∀ x, x ≠ 242 → m' x = m x) q.1 q.2) (fun q => (fun n : Int => (18 - n).toNat) q.1) ((fun n : Int => (18 - n).toNat) n) (fun r => RowEq (r.2.2 242) (cbR d R i c (cR d R i c % 32).toNat) ∧ ∀ x, x ≠ 242 → r.2.2 x = m x)) := by
        intro z0 hz
        have eS : nsum (wsnd (dz d) (sR d R i c) S) (n.toNat + 1) = nsum (wsnd (dz d) (sR d R i c) S) n.toNat + z0 := by
          show _ + wsnd (dz d) (sR d R i c) S n.toNat = _
          unfold wsnd
          rw [hS, hL]
          rcases hz with ⟨q1, q2⟩ | ⟨q1, q2⟩
          · rw [if_pos ⟨rfl, q2⟩, q1]
          · rw [if_neg (fun q => q2 q.2), q1]
        have eSo : ∀ s', s' ≠ S → nsum (wsnd (dz d) (sR d R i c) s') (n.toNat + 1) = nsum (wsnd (dz d) (sR d R i c) s') n.toNat := by
          intro s' hs'
          show _ + wsnd (dz d) (sR d R i c) s' n.toNat = _
          unfold wsnd
          rw [hS, if_neg (fun q => hs' q.1.symm)]
          show nsum (wsnd (dz d) (sR d R i c) s') n.toNat + 0 = nsum (wsnd (dz d) (sR d R i c) s') n.toNat
          omega
        have eP : nsum (wspo (dz d) (sR d R i c)) (n.toNat + 1) = nsum (wspo (dz d) (sR d R i c)) n.toNat + (if z0 = 0 then L else 0) := by
          show _ + wspo (dz d) (sR d R i c) n.toNat = _
          unfold wspo
          rw [hS, hL]
          rcases hz with ⟨q1, q2⟩ | ⟨q1, q2⟩
          · rw [if_pos q2, q1, if_neg (by decide)]
          · rw [if_neg q2, q1, if_pos rfl]
        have hz01 : z0 = 0 ∨ z0 = 1 := by rcases hz with ⟨q, _⟩ | ⟨q, _⟩ <;> omega
        have hsp := hbb.2.2.1
        unfold ebX11_coverBy_53
        simp only [y4, y5]
        rw [b1, w32_id (by omega) (by omega)]
        refine T_ck ⟨by omega, by omega⟩ (T_ck ⟨by omega, by omega⟩ (T_vm' (fun m2 e2 => T_ck (by decide) (T_ck (by decide) ?_))))
        rw [show m2 242 32 = w32 (R 32 + nsum (woff (dz d) (sR d R i c)) n.toNat) by rw [e2, ms_y (by omega)]; exact b2, w32_add]
        refine T_vm' (fun m3 e3 => T_ck ⟨by omega, by omega⟩ ?_)
        rw [show m3 242 (19 + 3 * i + S) = nsum (wsnd (dz d) (sR d R i c) S) n.toNat by rw [e3, ms_y (by omega), e2, ms_y (by omega)]; exact b3]
        have fin : ∀ zz : Int, zz = z0 → T (ebX11_coverBy_109 g i c n zz 242 (19 + 3 * i + S) (nsum (wsnd (dz d) (sR d R i c) S) n.toNat) zz m3) (G (fun q => (fun (n : Int) (m' : Mem) => (0 ≤ n ∧ n ≤ cR d R i c % 32) ∧ RowEq (m' 242) (cbR d R i c n.toNat) ∧ ∀ x, x ≠ 242 → m' x = m x) q.1 q.2) (fun q => (fun n : Int => (18 - n).toNat) q.1) ((fun n : Int => (18 - n).toNat) n) (fun r => RowEq (r.2.2 242) (cbR d R i c (cR d R i c % 32).toNat) ∧ ∀ x, x ≠ 242 → r.2.2 x = m x)) := by
          intro zz hzz
          unfold ebX11_coverBy_109
          simp only [y6]
          rw [w32_id (by omega) (by omega)]
          refine T_ck ⟨by omega, by rw [hg]; omega⟩ (T_vm' (fun m4 e4 => T_ck ⟨by omega, by omega⟩ ?_))
          have b4' : m4 242 (28 + i) = nsum (wspo (dz d) (sR d R i c)) n.toNat := by rw [e4, ms_y (by omega), e3, ms_y (by omega), e2, ms_y (by omega)]; exact b4
          have b263 : m4 263 n = L := by rw [e4, ms_x (by decide), e3, ms_x (by decide), e2, ms_x (by decide), n3 263 (by decide)]; exact z1
          rw [b4', b263]
          have last : ∀ v : Int, v = (if z0 = 0 then L else 0) → T (ebX11_coverBy_136 g i c n 242 (28 + i) (nsum (wspo (dz d) (sR d R i c)) n.toNat) v m4) (G (fun q => (fun (n : Int) (m' : Mem) => (0 ≤ n ∧ n ≤ cR d R i c % 32) ∧ RowEq (m' 242) (cbR d R i c n.toNat) ∧ ∀ x, x ≠ 242 → m' x = m x) q.1 q.2) (fun q => (fun n : Int => (18 - n).toNat) q.1) ((fun n : Int => (18 - n).toNat) n) (fun r => RowEq (r.2.2 242) (cbR d R i c (cR d R i c % 32).toNat) ∧ ∀ x, x ≠ 242 → r.2.2 x = m x)) := by
            intro v hv
            have hvr : 0 ≤ v ∧ v ≤ 9 := by rw [hv]; split <;> omega
            unfold ebX11_coverBy_136
            rw [w32_id (x := nsum (wspo (dz d) (sR d R i c)) n.toNat + v) (by omega) (by omega), w32_id (by omega) (by omega)]
            refine T_ck ⟨by omega, by rw [hg]; omega⟩ (T_vm' (fun m5 e5 => T_vv (T_go ⟨⟨by simp only; omega, by simp only; omega⟩, fun k k0 k1 => ?_, fun x hx => ?_⟩ (by simp only; omega))))
            · simp only [es]
              rw [e5]
              unfold cbR
              by_cases q4 : k = 28 + i
              · rw [q4, ms_at, if_neg (by omega), if_neg (by omega), if_neg (by omega), if_pos rfl, eP, hv]
              · rw [ms_y q4, e4]
                by_cases q3 : k = 19 + 3 * i + S
                · rw [q3, ms_at, if_neg (by omega), if_neg (by omega), if_pos (by omega), show 19 + 3 * i + S - 19 - 3 * i = S by omega, eS, hzz]
                · rw [ms_y q3, e3]
                  by_cases q1 : k = 32
                  · rw [q1, ms_at, if_pos rfl, eO]
                    congr 1
                    omega
                  · rw [ms_y q1, e2]
                    by_cases q2 : k = 1 + 3 * c + S
                    · rw [q2, ms_at, if_neg (by omega), if_pos (by omega), show 1 + 3 * c + S - 1 - 3 * c = S by omega, eW]
                      omega
                    · rw [ms_y q2, n2 k k0 k1]
                      unfold cbR
                      rw [if_neg q1, if_neg q1]
                      by_cases q5 : 1 + 3 * c ≤ k ∧ k < 4 + 3 * c
                      · rw [if_pos q5, if_pos q5, eWo (k - 1 - 3 * c) (by omega)]
                      · rw [if_neg q5, if_neg q5]
                        by_cases q6 : 19 + 3 * i ≤ k ∧ k < 22 + 3 * i
                        · rw [if_pos q6, if_pos q6, eSo (k - 19 - 3 * i) (by omega)]
                        · rw [if_neg q6, if_neg q6, if_neg q4, if_neg q4]
            · simp only
              rw [e5, ms_f hx, e4, ms_f hx, e3, ms_f hx, e2, ms_f hx]; exact n3 x hx
          refine T_if (fun c1 => T_ck ⟨by omega, by omega⟩ (last L ?_)) (fun c1 => last 0 ?_)
          · rw [if_pos (by omega)]
          · rw [if_neg (by omega)]
        refine T_if (fun c1 => ?_) (fun c1 => ?_)
        · have := fin 0 c1.symm
          rw [c1]; exact this
        · have e1 : z0 = 1 := by omega
          have := fin 1 e1.symm
          rw [e1]; exact this
      unfold ebX11_coverBy_52
      refine T_ck ⟨by omega, by omega⟩ (T_vv (T_ck ⟨by omega, by omega⟩ (T_ck ⟨by omega, by omega⟩ ?_)))
      rw [yL]
      refine (T_vv (T_if (fun c1 => T_ck ⟨by omega, by omega⟩ (T_if (fun c2 => main 1 (Or.inl ⟨rfl, by omega, c2⟩)) (fun c2 => main 0 (Or.inr ⟨rfl, fun q => c2 q.2⟩)))) (fun c1 => main 0 (Or.inr ⟨rfl, fun q => c1 (by omega)⟩))))
  · rintro cc ⟨n, m1⟩ ⟨a1, b1⟩
    dsimp only at a1 b1
    unfold ebX11_coverBy_144
    dsimp only
    rw [w32_id (x := 10 + i) (by omega) (by omega), w32_id (x := 13 + i) (by omega) (by omega), w32_id (x := 16 + i) (by omega) (by omega)]
    refine T_ck ⟨by omega, by omega⟩ (T_vm' (fun m2 e2 => T_ck ⟨by omega, by omega⟩ ?_))
    rw [show m2 241 35 = cR d R i c % 32 by rw [e2, ms_x (by decide), b1 241 (by decide)]; exact y2]
    refine T_vm' (fun m3 e3 => T_ck ⟨by omega, by omega⟩ ?_)
    rw [show m3 241 36 = cR d R i c / 32 by rw [e3, ms_x (by decide), e2, ms_x (by decide), b1 241 (by decide)]; exact y1]
    refine T_vm' (fun m4 e4 => T_ck (by decide) (T_ck (by decide) ?_))
    have e431 : m4 242 31 = R 31 := by
      rw [e4, ms_y (by omega), e3, ms_y (by omega), e2, ms_y (by omega), a1 31 (by decide) (by decide)]
      unfold cbR
      rw [if_neg (by decide), if_neg (by omega), if_neg (by omega), if_neg (by omega)]
    rw [e431, show m4 241 36 = cR d R i c / 32 by rw [e4, ms_x (by decide), e3, ms_x (by decide), e2, ms_x (by decide), b1 241 (by decide)]; exact y1]
    refine T_vm' (fun m5 e5 => ?_)
    have r5 : ∀ k, 0 ≤ k → k < 33 → m5 242 k = covR d R i c k := by
      intro k k0 k1
      unfold covR
      rw [e5]
      by_cases q2 : k = 31
      · rw [q2, ms_at, if_neg (by decide), if_pos rfl]
      · rw [ms_y q2, e4]
        by_cases q3 : k = 16 + i
        · rw [q3, ms_at, if_neg (by omega), if_neg (by omega), if_neg (by omega), if_neg (by omega), if_neg (by omega), if_pos rfl]
        · rw [ms_y q3, e3]
          by_cases q4 : k = 13 + i
          · rw [q4, ms_at, if_neg (by omega), if_neg (by omega), if_neg (by omega), if_neg (by omega), if_pos rfl]
          · rw [ms_y q4, e2]
            by_cases q5 : k = 10 + i
            · rw [q5, ms_at, if_neg (by omega), if_neg (by omega), if_neg (by omega), if_pos rfl]
            · rw [ms_y q5, a1 k k0 (by omega), hand_lo (by omega)]
              unfold cbR
              rw [if_neg q2, if_neg q5, if_neg q4, if_neg q3]
    have r5o : ∀ k, 33 ≤ k → k < 433 → m5 242 k = R k := by
      intro k k0 k1
      rw [e5, ms_y (by omega), e4, ms_y (by omega), e3, ms_y (by omega), e2, ms_y (by omega), a1 k (by omega) k1]
      unfold cbR
      rw [if_neg (by omega), if_neg (by omega), if_neg (by omega), if_neg (by omega)]
    have f5 : ∀ x, x ≠ 242 → m5 x = m x := fun x hx => by rw [e5, ms_f hx, e4, ms_f hx, e3, ms_f hx, e2, ms_f hx, b1 x hx]
    have hwl := hd.2.2 i hi.1 hi.2
    have hmx := hwl.mx
    refine T_bdl (Q := fun r => RowEq (r.2.2 242) (covR d R i c) ∧ ∀ x, x ≠ 242 → r.2.2 x = m x)
      (iter1 (fun k m' => (0 ≤ k ∧ k ≤ dn d i) ∧ (∀ j, 0 ≤ j → j < 33 → m' 242 j = covR d R i c j) ∧ (∀ j, 33 ≤ j → j < 433 → m' 242 j = hand d i (-4) i k.toNat R j) ∧ ∀ x, x ≠ 242 → m' x = m x) (fun k => (dn d i - k).toNat) ⟨by omega, r5, fun j a b => ?_, f5⟩ (by omega) ?_) ?_
    · rw [r5o j a b]
      unfold hand
      rw [if_neg (fun q => ?_)]
      have := q.2.2
      unfold onN at this
      exact absurd this (by simp)
    · rintro k m' ⟨k1, k2, k3, k4⟩
      unfold eBX11_coverBy_196 ebX11_coverBy_196
      simp only
      rw [k4 255 (by decide), e255]
      refine T_ck ⟨hi.1, by omega⟩ (T_if (fun c1 => T_out (by decide) ⟨fun j a b => ?_, k4⟩) (fun c1 => ?_))
      · by_cases q : j < 33
        · exact k2 j a q
        · dsimp only
          rw [k3 j (by omega) b, show k = dn d i by omega]
          unfold covR
          rw [if_neg (by omega), if_neg (by omega), if_neg (by omega), if_neg (by omega), if_neg (by omega), if_neg (by omega), if_neg (by omega), if_neg (by omega)]
      · have hcell := hwl.2.2.2.1 k k1.1 (by omega)
        rw [w32_id (x := 60 * i) (by omega) (by omega), w32_id (x := 60 * i + k) (by omega) (by omega), k4 256 (by decide), e256, w32_id (x := 33 + dc d i k) (by omega) (by omega)]
        have es : (k + 1).toNat = (k.toNat) + 1 := by omega
        have hon : ∀ j, hand d i (-4) i (k + 1).toNat R j = if j = 33 + dc d i k ∧ hand d i (-4) i k.toNat R j = -4 then i else hand d i (-4) i k.toNat R j := by
          intro j
          unfold hand
          rw [onN_s k1.1]
          by_cases q1 : R j = -4 ∧ 33 ≤ j ∧ onN d i (j - 33) k.toNat = true
          · rw [if_pos q1, if_pos ⟨q1.1, q1.2.1, by rw [q1.2.2, Bool.true_or]⟩]
            by_cases q2 : j = 33 + dc d i k ∧ i = -4
            · omega
            · rw [if_neg q2]
          · rw [if_neg q1]
            by_cases q2 : j = 33 + dc d i k ∧ R j = -4
            · rw [if_pos q2, if_pos ⟨q2.2, by omega, by rw [decide_eq_true (by omega), Bool.or_true]⟩]
            · rw [if_neg q2, if_neg (fun q3 => ?_)]
              obtain ⟨a1, a2, a3⟩ := q3
              rw [Bool.or_eq_true, decide_eq_true_iff] at a3
              rcases a3 with a3 | a3
              · exact q1 ⟨a1, a2, a3⟩
              · exact q2 ⟨by omega, a1⟩
        have go : ∀ v : Int, v = (if hand d i (-4) i k.toNat R (33 + dc d i k) = -4 then i else hand d i (-4) i k.toNat R (33 + dc d i k)) → T (ebX11_coverBy_251 g i k 242 (33 + dc d i k) v m') (G (fun q => (fun (k : Int) (m' : Mem) => (0 ≤ k ∧ k ≤ dn d i) ∧ (∀ j, 0 ≤ j → j < 33 → m' 242 j = covR d R i c j) ∧ (∀ j, 33 ≤ j → j < 433 → m' 242 j = hand d i (-4) i k.toNat R j) ∧ ∀ x, x ≠ 242 → m' x = m x) q.1 q.2) (fun q => (fun k : Int => (dn d i - k).toNat) q.1) ((fun k : Int => (dn d i - k).toNat) k) (fun r => RowEq (r.2.2 242) (covR d R i c) ∧ ∀ x, x ≠ 242 → r.2.2 x = m x)) := by
          intro v hv
          unfold ebX11_coverBy_251
          rw [w32_id (by omega) (by omega)]
          refine T_ck ⟨by omega, by rw [hg]; omega⟩ (T_vm' (fun m6 e6 => T_vv (T_go ⟨⟨by simp only; omega, by simp only; omega⟩, fun j a b => ?_, fun j a b => ?_, fun x hx => ?_⟩ (by simp only; omega))))
          · simp only
            rw [e6, ms_y (by omega)]; exact k2 j a b
          · simp only
            rw [hon j, e6]
            by_cases q : j = 33 + dc d i k
            · rw [q, ms_at, hv]
              by_cases q2 : hand d i (-4) i k.toNat R (33 + dc d i k) = -4
              · rw [if_pos q2, if_pos ⟨rfl, q2⟩]
              · rw [if_neg q2, if_neg (fun q3 => q2 q3.2)]
            · rw [ms_y q, if_neg (fun q3 => q q3.1)]; exact k3 j a b
          · simp only
            rw [e6, ms_f hx]; exact k4 x hx
        refine T_ck ⟨by omega, by omega⟩ (T_vv ?_)
        rw [k3 (33 + dc d i k) (by omega) (by omega)]
        refine ((T_ck ⟨by omega, by omega⟩ (T_if (fun c2 => go i (by rw [if_pos c2])) (fun c2 => T_ck ⟨by omega, by omega⟩ (go _ (by rw [if_neg c2]))))))
    · rintro c6 ⟨k, m6⟩ hh
      exact T_some hh
