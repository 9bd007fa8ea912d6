theorem tX11_findPieces {g : Shp} {m : Mem} {i : Int} {d : Dt} (hd : dt m = d) (hl : dl d ≤ 3) (hi : 0 ≤ i ∧ i < dl d) (hw : WLine d i) :
    T (eX11_findPieces g i m) (fun p => PcR p.2 (pcOf d (m 242) i) ∧ (∀ j, j ≠ 27 → p.2 241 j = m 241 j) ∧ ∀ a, a ≠ 241 → a ≠ 257 → a ≠ 258 → p.2 a = m a) := by
  have hn := hw.mx
  have e253 : m 253 i = dr d i := by rw [← hd]; rfl
  have e254 : ∀ r, m 254 (5 * i + r) = dg d i r := fun r => by rw [← hd]; rfl
  have e256 : ∀ k, m 256 (60 * i + k) = dc d i k := fun r => by rw [← hd]; rfl
  unfold eX11_findPieces ebX11_findPieces_0
  refine T_vm (T_bdl (Q := fun q => PcR q.2.2.2 (pcOf d (m 242) i) ∧ (∀ j, j ≠ 27 → q.2.2.2 241 j = m 241 j) ∧ ∀ a, a ≠ 241 → a ≠ 257 → a ≠ 258 → q.2.2.2 a = m a)
    (iter2 (fun k r m' => 0 ≤ r ∧ r ≤ dr d i ∧ k = rsum (dg d i) r.toNat ∧ PcR m' (pcRuns (m 242) (dc d i) (dg d i) (dr d i) r.toNat) ∧ (∀ j, j ≠ 27 → m' 241 j = m 241 j) ∧ ∀ a, a ≠ 241 → a ≠ 257 → a ≠ 258 → m' a = m a) (fun _ r => (5 - r).toNat)
      ⟨by decide, by have := hw.1; omega, rfl, ⟨ms_at _ _ _ _, fun p a b => ?_⟩, fun j hj => ms_y hj, fun a ha _ _ => ms_f ha⟩ (by decide) ?_) ?_)
  · exfalso
    have : (pcRuns (m 242) (dc d i) (dg d i) (dr d i) (Int.toNat 0)).1 = 0 := rfl
    rw [this] at b
    omega
  · rintro k r m' ⟨h1, h2, h3, h4, h41, h5⟩
    have hrr := hw.1
    unfold eBX11_findPieces_9 ebX11_findPieces_9
    have e3 : m' 253 i = dr d i := by rw [h5 253 (by decide) (by decide) (by decide), e253]
    simp only [e3]
    refine T_ck ⟨by omega, by omega⟩ (T_if (fun hc => T_out (by decide) ⟨?_, h41, h5⟩) (fun hc => ?_))
    · simp only
      unfold pcOf
      rw [show dr d i = r by omega] at h4 ⊢
      exact h4
    · have hlr := hw.2.1 r h1 (by omega)
      have hsr : rsum (dg d i) (r + 1).toNat = k + dg d i r := by rw [rsum_s h1, h3]
      have hmo := rsum_mo (f := dg d i) (r + 1).toNat (dr d i).toNat (by omega) (fun x a b => by have := hw.2.1 x a (by omega); omega)
      rw [hw.2.2.1] at hmo
      have hk0 : 0 ≤ k := by rw [h3]; exact rsum_0 _ (fun x a b => by have := hw.2.1 x a (by omega); omega)
      have hW := WPc.runs hw (m 242) r.toNat (by omega)
      rw [← h3] at hW
      have e4 : m' 254 (5 * i + r) = dg d i r := by rw [h5 254 (by decide) (by decide) (by decide), e254]
      simp (disch := omega) only [w32_id, e4]
      refine T_ck ⟨by omega, by omega⟩ (T_vv (T_bdl (Q := fun q => q.2.1 = k + dg d i r ∧ PcR q.2.2.2 (pcCells (m 242) (dc d i) k (dg d i r).toNat (pcZ (pcRuns (m 242) (dc d i) (dg d i) (dr d i) r.toNat))) ∧ q.2.2.1 = (pcCells (m 242) (dc d i) k (dg d i r).toNat (pcZ (pcRuns (m 242) (dc d i) (dg d i) (dr d i) r.toNat))).2.2.2 ∧ (∀ j, j ≠ 27 → q.2.2.2 241 j = m 241 j) ∧ ∀ a, a ≠ 241 → a ≠ 257 → a ≠ 258 → q.2.2.2 a = m a)
        (iter2 (fun x o m2 => k ≤ x ∧ x ≤ k + dg d i r ∧ PcR m2 (pcCells (m 242) (dc d i) k (x - k).toNat (pcZ (pcRuns (m 242) (dc d i) (dg d i) (dr d i) r.toNat))) ∧ o = (pcCells (m 242) (dc d i) k (x - k).toNat (pcZ (pcRuns (m 242) (dc d i) (dg d i) (dr d i) r.toNat))).2.2.2 ∧ (∀ j, j ≠ 27 → m2 241 j = m 241 j) ∧ ∀ a, a ≠ 241 → a ≠ 257 → a ≠ 258 → m2 a = m a) (fun x _ => (60 - x).toNat)
          ⟨by omega, by omega, ?_, ?_, h41, h5⟩ (by omega) ?_) ?_))
      · rw [show (k - k).toNat = 0 by omega]
        exact h4
      · rw [show (k - k).toNat = 0 by omega]
        rfl
      · rintro x o m2 ⟨a1, a2, a3, a4, a41, a5⟩
        unfold eBX11_findPieces_36 ebX11_findPieces_36 ebX11_findPieces_71 ebX11_findPieces_85 ebX11_findPieces_98
        simp only
        refine T_if (fun hx => T_out (by decide) ⟨?_, ?_, ?_, a41, a5⟩) (fun hx => ?_)
        · simp only; omega
        · simp only
          rw [show x = k + dg d i r by omega, show k + dg d i r - k = dg d i r by omega] at a3
          exact a3
        · simp only
          rw [show x = k + dg d i r by omega, show k + dg d i r - k = dg d i r by omega] at a4
          exact a4
        · have ec : m2 256 (60 * i + x) = dc d i x := by rw [a5 256 (by decide) (by decide) (by decide), e256]
          have hcr := hw.2.2.2.1 x (by omega) (by omega)
          have eo : m2 242 (33 + dc d i x) = m 242 (33 + dc d i x) := by rw [a5 242 (by decide) (by decide) (by decide)]
          have hWx := (hW.cells (R := m 242) (ce := dc d i) (k := k) rfl (x - k).toNat (by omega))
          have hWn := hWx.1.n
          have hWo := hWx.1.2.1
          simp (disch := omega) only [w32_id, ec, eo]
          refine T_ck ⟨by omega, by omega⟩ (T_ck ⟨by omega, by omega⟩ (T_if (fun he => ?_) (fun he => ?_)))
          · refine T_ie (by decide) (T_ie (by decide) (T_vv (T_go ⟨by simp only; omega, by simp only; omega, ?_, ?_, a41, a5⟩ (by simp only; omega))))
            · simp only
              rw [pcCells_s a1]
              unfold pcCell
              rw [if_pos he]
              exact a3
            · simp only
              rw [pcCells_s a1]
              unfold pcCell
              rw [if_pos he, a4]
          · refine T_it trivial (T_bd2 (tX11_endPiece a3 a4 ⟨hWx.1.1, fun ho => by omega⟩ (by omega) (Or.inl rfl)) ?_)
            rintro rr m3 ⟨b1, b41, b2⟩
            simp only at b1 b41 b2
            refine T_it trivial (T_vv (T_go ⟨by simp only; omega, by simp only; omega, ?_, ?_, fun j hj => by simp only; rw [b41 j hj, a41 j hj], fun a ha hb hc => by simp only; rw [b2 a ha hb hc, a5 a ha hb hc]⟩ (by simp only; omega)))
            · simp only
              rw [pcCells_s a1]
              unfold pcCell
              rw [if_neg he]
              exact b1
            · simp only
              rw [pcCells_s a1]
              unfold pcCell
              rw [if_neg he]
              rfl
      · rintro cv ⟨x, o, m2⟩ ⟨a1, a2, a3, a41, a4⟩
        simp only at a1 a2 a3 a4 a41
        unfold ebX11_findPieces_106 ebX11_findPieces_126
        dsimp only
        have hWx := (hW.cells (R := m 242) (ce := dc d i) (k := k) rfl (dg d i r).toNat (by omega))
        have hWn := hWx.1.n
        have hWo := hWx.1.2.1
        have e32 : m2 253 i = dr d i := by rw [a4 253 (by decide) (by decide) (by decide), e253]
        simp (disch := omega) only [w32_id, e32]
        have fin : ∀ b : Int, b = (if r + 1 < dr d i then 1 else 0) → (b = 0 ∨ b = 1) → T (bd2 (eX11_endPiece g o b m2) fun v1 m2 => vv (r + 1) fun y4 => some (0, (x, y4, m2))) (G (fun q => (fun (k r : Int) (m' : Mem) => 0 ≤ r ∧ r ≤ dr d i ∧ k = rsum (dg d i) r.toNat ∧ PcR m' (pcRuns (m 242) (dc d i) (dg d i) (dr d i) r.toNat) ∧ (∀ j, j ≠ 27 → m' 241 j = m 241 j) ∧ ∀ a, a ≠ 241 → a ≠ 257 → a ≠ 258 → m' a = m a) q.1 q.2.1 q.2.2) (fun q => (fun (_ r : Int) => (5 - r).toNat) q.1 q.2.1) ((fun (_ r : Int) => (5 - r).toNat) k r) (fun q => PcR q.2.2.2 (pcOf d (m 242) i) ∧ (∀ j, j ≠ 27 → q.2.2.2 241 j = m 241 j) ∧ ∀ a, a ≠ 241 → a ≠ 257 → a ≠ 258 → q.2.2.2 a = m a)) := by
          intro b hb hb2
          refine T_bd2 (tX11_endPiece a2 a3 ⟨hWx.1.1, fun ho => by omega⟩ (by omega) hb2) ?_
          rintro rr m3 ⟨b1, b41, b2⟩
          simp only at b1 b41 b2
          refine T_vv (T_go ⟨by simp only; omega, by simp only; omega, ?_, ?_, fun j hj => by simp only; rw [b41 j hj, a41 j hj], fun a ha hb hc => by simp only; rw [b2 a ha hb hc, a4 a ha hb hc]⟩ (by simp only; omega))
          · simp only
            rw [hsr, a1]
          · simp only
            rw [show (r + 1).toNat = r.toNat + 1 by omega]
            show PcR m3 (pcEnd (pcCells (m 242) (dc d i) (rsum (dg d i) r.toNat) (dg d i ((r.toNat : Nat) : Int)).toNat (pcZ (pcRuns (m 242) (dc d i) (dg d i) (dr d i) r.toNat))) (if ((r.toNat : Nat) : Int) + 1 < dr d i then 1 else 0))
            rw [show ((r.toNat : Nat) : Int) = r by omega, ← h3, ← hb]
            exact b1
        refine T_ck ⟨by omega, by omega⟩ (T_if (fun hq => fin 0 (by rw [if_neg (by omega)]) (Or.inl rfl)) (fun hq => fin 1 (by rw [if_pos (by omega)]) (Or.inr rfl)))
  · rintro r ⟨k, rr, m'⟩ ⟨h1, h2⟩
    exact T_some ⟨h1, h2⟩
/-- the same pieces where the rows are alike -/
theorem pcCells_c {R S ce : Int → Int} {k : Int} (h : RowEq R S) : ∀ (n : Nat) (q : Pc), (∀ j : Int, k ≤ j → j < k + n → 0 ≤ ce j ∧ ce j < 400) → pcCells R ce k n q = pcCells S ce k n q
  | 0, _, _ => rfl
  | n + 1, q, hc => by
    have ih := pcCells_c (ce := ce) (k := k) h n q (fun j a b => hc j a (by omega))
    have h2 := hc (k + n) (by omega) (by omega)
    show pcCell R _ _ = pcCell S _ _
    rw [ih]
    unfold pcCell
    rw [h _ (by omega) (by omega)]
theorem pcRuns_c {d : Dt} {i : Int} {R S : Int → Int} (hw : WLine d i) (h : RowEq R S) : ∀ r : Nat, (r : Int) ≤ dr d i → pcRuns R (dc d i) (dg d i) (dr d i) r = pcRuns S (dc d i) (dg d i) (dr d i) r
  | 0, _ => rfl
  | r + 1, hr => by
    have ih := pcRuns_c hw h r (by omega)
    have hlr := hw.2.1 r (by omega) (by omega)
    have hmo := rsum_mo (f := dg d i) (r + 1) (dr d i).toNat (by omega) (fun x a b => by have := hw.2.1 x a (by omega); omega)
    rw [hw.2.2.1] at hmo
    have e : rsum (dg d i) (r + 1) = rsum (dg d i) r + dg d i r := rfl
    have h0 : 0 ≤ rsum (dg d i) r := rsum_0 _ (fun x a b => by have := hw.2.1 x a (by omega); omega)
    show pcEnd (pcCells R _ _ _ _) _ = pcEnd (pcCells S _ _ _ _) _
    rw [ih, pcCells_c h _ _ (fun j a b => hw.2.2.2.1 j (by omega) (by omega))]
theorem pcOf_c {d : Dt} {i : Int} {R S : Int → Int} (hw : WLine d i) (h : RowEq R S) : pcOf d R i = pcOf d S i := pcRuns_c hw h _ (by have := hw.1; omega)
/-- nothing that counts has changed -/
theorem Done.tx2 {m m' : Mem} (h : Core m) (hf : ∀ a, a ≠ 241 → (a < 6 ∨ 8 < a) → a ≠ 10 → (a < 257 ∨ 267 < a) → m' a = m a) (h3 : m' 241 3 = m 241 3) (h5 : m' 241 5 = m 241 5) (h20 : m' 241 20 = m 241 20) (hx : ∀ a, (a = 5 ∨ a = 11 ∨ a = 147 ∨ 13 ≤ a ∧ a ≤ 84) → m' a = m a) : Done m m' := by
  obtain ⟨ht, hw, hs, hp, ⟨hr, hr2⟩, hq⟩ := h
  have F : ∀ a, a ≠ 241 → (a < 6 ∨ 10 < a) → (a < 257 ∨ 267 < a) → m' a = m a := fun a x y z => hf a x (by omega) (by omega) z
  have hd : dt m' = dt m := dt_c h20 (fun a b c => F a (by omega) (by omega) (by omega))
  have hP : 177 ≤ m 1 6 ∧ m 1 6 ≤ 191 := by rcases hs with hs | hs <;> omega
  have e1 : m' 1 = m 1 := F 1 (by decide) (by decide) (by decide)
  have e42 : m' 242 = m 242 := F 242 (by decide) (by decide) (by decide)
  refine ⟨⟨ht.c h5 (by rw [F 2 (by decide) (by decide) (by decide)]) (F 3 (by decide) (by decide) (by decide)) (F 245 (by decide) (by decide) (by decide)), by rw [hd]; exact hw, by unfold ISw; rw [e1]; exact hs, ?_, ⟨?_, ?_⟩, hq.c hd (fun a b c => F a (by omega) (by omega) (by omega)) h3 (F 244 (by decide) (by decide) (by decide))⟩, hd, hx, Or.inl ⟨fun a ha => F a (by omega) (by omega) (by omega), fun k _ _ => by rw [e42]⟩⟩
  · rw [e1, hd]
    exact hp.c hw.1.2 (fun a b c => F a (by omega) (by omega) (by omega))
  · rw [e42, rowC_c (fun x a b => F x (by omega) (by omega) (by omega))]
    exact hr
  · rw [hd, e42]
    exact hr2
theorem op_piece {g : Shp} {m : Mem} {x y : Int} (hg : gl g 86 = 400) (h : Core m) : Two (eX10_piece g x y m) (eX11_piece g x y) (Done m) := by
  obtain ⟨ht, hp, hs, hpl, ⟨hr0, hw0⟩, hq⟩ := id h
  have rf := Done.rf h
  have hl := hp.1
  have hP : 177 ≤ m 1 6 ∧ m 1 6 ≤ 191 := by rcases hs with hs | hs <;> omega
  unfold Two eX10_piece ebX10_piece_0
  refine T_bd2 (tX10_isLine hpl.2.1) ?_
  intro r m' q
  cases q
  by_cases hx : 0 ≤ x ∧ x < dl (dt m)
  case neg =>
    rw [if_neg hx]
    refine T_it rfl (T2 ?_)
    unfold eX11_piece ebX11_piece_0
    refine T_bd2 (tX11_isLine hl) ?_
    intro r m' q
    cases q
    rw [if_neg hx]
    exact T_it rfl (T_r rfl rf)
  rw [if_pos hx]
  refine T_ie (by decide) (T_if (fun hy => T_bd2 (tX1_isCovered ⟨by omega, by omega⟩) ?_) (fun hy => T2 ?_))
  rotate_left
  · unfold eX11_piece ebX11_piece_0
    refine T_bd2 (tX11_isLine hl) ?_
    intro r m' q
    cases q
    rw [if_pos hx]
    exact T_ie (by decide) (T_ie hy (T_r rfl rf))
  intro r m' q
  cases q
  rw [hr0 _ (by omega) (by omega)]
  by_cases ho : m 242 (10 + x) = -4
  case neg =>
    rw [if_neg ho]
    refine T_ie (by decide) (T2 ?_)
    unfold eX11_piece ebX11_piece_0
    refine T_bd2 (tX11_isLine hl) ?_
    intro r m' q
    cases q
    rw [if_pos hx]
    refine T_ie (by decide) (T_it hy (T_bd2 (tX11_isCovered ⟨by omega, by omega⟩) ?_))
    intro r m' q
    cases q
    rw [if_neg ho]
    exact T_ie (by decide) (T_r rfl rf)
  rw [if_pos ho, show m 1 6 + 3 + (2 + 3 * x) = m 1 6 + 5 + 3 * x by omega]
  have hwl := hp.2.2 x hx.1 hx.2
  have hn := hwl.mx
  have hW := (WPc.of hwl (m 242))
  have hWn := hW.n
  have hW0 := hW.1
  have eZ : (pcZ (pcOf (dt m) (m 242) x)).1 = (pcOf (dt m) (m 242) x).1 := rfl
  rw [eZ] at hWn hW0
  refine T_it rfl (T_ck ⟨by omega, by omega⟩ (T_bd2 (tX6_split (f := 85) hl.2 hx hwl hpl hr0 (by decide) (by omega) hg) ?_))
  rintro r1 m1 ⟨⟨b1, b2⟩, b3⟩
  simp only at b1 b2 b3
  have hd1 : dt m1 = dt m := dt_c (by rw [b3 241 (by decide)]) (fun a u v => b3 a (by omega))
  have e42 : m1 242 = m 242 := b3 242 (by decide)
  have inner : ∀ v : Int, v = (if y = -1 then (pcOf (dt m) (m 242) x).1 else if (pcOf (dt m) (m 242) x).1 ≤ y then -4 else (pcOf (dt m) (m 242) x).2.1 y) → T (eX11_piece g x y m1) (fun p => v = p.1 ∧ Done m p.2) := by
    intro v hv
    unfold eX11_piece ebX11_piece_0
    refine T_bd2 (tX11_isLine (by rw [hd1]; exact hl)) ?_
    intro r m' q
    cases q
    rw [hd1, if_pos hx]
    refine T_ie (by decide) (T_it hy (T_bd2 (tX11_isCovered ⟨by omega, by omega⟩) ?_))
    intro r m' q
    cases q
    rw [e42, if_pos ho]
    refine T_it rfl (T_bd2 (tX11_findPieces hd1 hl.2 hx hwl) ?_)
    rintro r2 m2 ⟨⟨c1, c2⟩, c41, c3⟩
    simp only at c1 c2 c41 c3
    rw [e42] at c1 c2
    have dn2 : Done m m2 := by
      refine Done.tx2 h ?_ ?_ ?_ ?_ ?_
      · intro a a1 a2 a3 a4
        rw [c3 a (by omega) (by omega) (by omega), b3 a (by omega)]
      · rw [c41 3 (by decide), b3 241 (by decide)]
      · rw [c41 5 (by decide), b3 241 (by decide)]
      · rw [c41 20 (by decide), b3 241 (by decide)]
      · intro a a1
        rw [c3 a (by omega) (by omega) (by omega), b3 a (by omega)]
    rw [c1]
    refine T_if (fun hc => T_r (by rw [hv, if_pos hc]) dn2) (fun hc => T_if (fun hc2 => T_r (by rw [hv, if_neg hc, if_pos hc2]) dn2) (fun hc2 => T_ck ⟨by omega, by omega⟩ (T_r ?_ dn2)))
    rw [hv, if_neg hc, if_neg hc2, (c2 y (by omega) (by omega)).1]
  rw [b1]
  refine T_if (fun hc => T2 (inner _ (by rw [if_pos hc]))) (fun hc => T_if (fun hc2 => T2 (inner _ (by rw [if_neg hc, if_pos hc2]))) (fun hc2 => T_ck ⟨by omega, by omega⟩ (T2 (inner _ (by rw [if_neg hc, if_neg hc2]; exact (b2 y (by omega) (by omega)).1)))))
