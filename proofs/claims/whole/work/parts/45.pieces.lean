theorem pcCells_s {R ce : Int → Int} {k0 k : Int} {q : Pc} (h : k0 ≤ k) : pcCells R ce k0 (k + 1 - k0).toNat q = pcCell R (ce k) (pcCells R ce k0 (k - k0).toNat q) := by
  rw [show (k + 1 - k0).toNat = (k - k0).toNat + 1 by omega]
  show pcCell R (ce (k0 + (((k - k0).toNat : Nat) : Int))) _ = _
  rw [show k0 + (((k - k0).toNat : Nat) : Int) = k by omega]
theorem tX6_split {g : Shp} {m : Mem} {f P i : Int} {d : Dt} {R : Int → Int} (hl : dl d ≤ 3) (hi : 0 ≤ i ∧ i < dl d) (hw : WLine d i) (hp : IPl m P d) (hr : RowEq (rowC m f) R) (hf : 8 < f) (hP : 8 < P) (hg : gl g (f + 1) = 400) :
    T (eX6_split g (P + 5 + 3 * i) (f + 1) m) (fun p => PcC p.2 (pcOf d R i) ∧ ∀ a, (a < 6 ∨ 8 < a) → p.2 a = m a) := by
  have hn := hw.mx
  obtain ⟨p1, p2, p3, p4⟩ := hp.2.2.1 i hi.1 hi.2
  unfold eX6_split ebX6_split_0
  refine T_vm (T_bdl (Q := fun q => PcC q.2.2.2 (pcOf d R i) ∧ ∀ a, (a < 6 ∨ 8 < a) → q.2.2.2 a = m a)
    (iter2 (fun k r m' => 0 ≤ r ∧ r ≤ dr d i ∧ k = rsum (dg d i) r.toNat ∧ PcC m' (pcRuns R (dc d i) (dg d i) (dr d i) r.toNat) ∧ ∀ a, (a < 6 ∨ 8 < a) → m' a = m a) (fun _ r => (5 - r).toNat)
      ⟨by decide, by have := hw.1; omega, rfl, ⟨ms_at _ _ _ _, fun p a b => ?_⟩, fun a ha => ms_f (by omega)⟩ (by decide) ?_) ?_)
  · exfalso
    have : (pcRuns R (dc d i) (dg d i) (dr d i) (Int.toNat 0)).1 = 0 := rfl
    rw [this] at b
    omega
  · rintro k r m' ⟨h1, h2, h3, h4, h5⟩
    have hrr := hw.1
    unfold eBX6_split_10 ebX6_split_10
    have e3 : m' (P + 5 + 3 * i) 3 = dr d i := by rw [h5 _ (by omega), p2]
    simp only [e3]
    refine T_if (fun hc => T_out (by decide) ⟨?_, h5⟩) (fun hc => ?_)
    · simp only
      unfold pcOf
      rw [show dr d i = r by omega] at h4 ⊢
      exact h4
    · have hlr := hw.2.1 r h1 (by omega)
      have hsr : rsum (dg d i) (r + 1).toNat = k + dg d i r := by rw [rsum_s h1, h3]
      have hmo := rsum_mo (f := dg d i) (r + 1).toNat (dr d i).toNat (by omega) (fun x a b => by have := hw.2.1 x a (by omega); omega)
      rw [hw.2.2.1] at hmo
      have hk0 : 0 ≤ k := by rw [h3]; exact rsum_0 _ (fun x a b => by have := hw.2.1 x a (by omega); omega)
      have hW := WPc.runs hw R r.toNat (by omega)
      rw [← h3] at hW
      have hend : m' (P + 5 + 3 * i + 2) r = k + dg d i r - 1 := by
        rw [h5 _ (by omega), p4 r h1 (by omega), show r.toNat + 1 = (r + 1).toNat by omega, hsr]
      refine T_bdl (Q := fun q => q.2.1 = k + dg d i r ∧ PcC q.2.2.2 (pcCells R (dc d i) k (dg d i r).toNat (pcZ (pcRuns R (dc d i) (dg d i) (dr d i) r.toNat))) ∧ q.2.2.1 = (pcCells R (dc d i) k (dg d i r).toNat (pcZ (pcRuns R (dc d i) (dg d i) (dr d i) r.toNat))).2.2.2 ∧ ∀ a, (a < 6 ∨ 8 < a) → q.2.2.2 a = m a)
        (iter2 (fun x o m2 => k ≤ x ∧ x ≤ k + dg d i r ∧ PcC m2 (pcCells R (dc d i) k (x - k).toNat (pcZ (pcRuns R (dc d i) (dg d i) (dr d i) r.toNat))) ∧ o = (pcCells R (dc d i) k (x - k).toNat (pcZ (pcRuns R (dc d i) (dg d i) (dr d i) r.toNat))).2.2.2 ∧ ∀ a, (a < 6 ∨ 8 < a) → m2 a = m a) (fun x _ => (60 - x).toNat)
          ⟨by omega, by omega, ?_, ?_, h5⟩ (by omega) ?_) ?_
      · rw [show (k - k).toNat = 0 by omega]
        exact h4
      · rw [show (k - k).toNat = 0 by omega]
        rfl
      · rintro x o m2 ⟨a1, a2, a3, a4, a5⟩
        unfold eBX6_split_22 ebX6_split_22 ebX6_split_62
        have hend2 : m2 (P + 5 + 3 * i + 2) r = k + dg d i r - 1 := by rw [a5 _ (by omega), ← h5 _ (by omega), hend]
        simp only [hend2]
        refine T_ck ⟨by omega, by omega⟩ (T_if (fun hx => T_out (by decide) ⟨?_, ?_, ?_, a5⟩) (fun hx => ?_))
        · simp only; omega
        · simp only
          rw [show x = k + dg d i r by omega, show k + dg d i r - k = dg d i r by omega] at a3
          exact a3
        · simp only
          rw [show x = k + dg d i r by omega, show k + dg d i r - k = dg d i r by omega] at a4
          exact a4
        · have ec : m2 (P + 5 + 3 * i + 1) x = dc d i x := by rw [a5 _ (by omega), p3 x (by omega) (by omega)]
          have hcr := hw.2.2.2.1 x (by omega) (by omega)
          have eo : m2 (f + 1) (dc d i x) = R (33 + dc d i x) := by rw [a5 _ (by omega), ← hr _ (by omega) (by omega), rowC_o hcr.1]
          have hWx := (hW.cells (R := R) (ce := dc d i) (k := k) rfl (x - k).toNat (by omega))
          have hWn := hWx.1.n
          have hWo := hWx.1.2.1
          simp only [ec, eo, hg]
          refine T_ck ⟨by omega, by omega⟩ (T_ck ⟨by omega, by omega⟩ (T_if (fun he => ?_) (fun he => ?_)))
          · rw [w32_id (x := o + 1) (by omega) (by omega), w32_id (by omega) (by omega)]
            refine T_vv (T_vv (T_go ⟨by simp only; omega, by simp only; omega, ?_, ?_, a5⟩ (by simp only; omega)))
            · simp only
              rw [pcCells_s a1]
              unfold pcCell
              rw [if_pos he]
              exact a3
            · simp only
              rw [pcCells_s a1]
              unfold pcCell
              rw [if_pos he, a4]
          · refine T_bd2 (tX6_add a3 a4 ⟨hWx.1.1, fun ho => by omega⟩ (by have := hWx.1.2.1; omega) (Or.inl rfl)) ?_
            rintro rr m3 ⟨b1, b2⟩
            simp only at b1 b2
            rw [w32_id (by omega) (by omega)]
            refine T_vv (T_go ⟨by simp only; omega, by simp only; omega, ?_, ?_, fun a ha => by simp only; rw [b2 a ha, a5 a ha]⟩ (by simp only; omega))
            · simp only
              rw [pcCells_s a1]
              unfold pcCell
              rw [if_neg he]
              exact b1
            · simp only
              rw [pcCells_s a1]
              unfold pcCell
              rw [if_neg he]
              rfl
      · rintro cv ⟨x, o, m2⟩ ⟨a1, a2, a3, a4⟩
        simp only at a1 a2 a3 a4
        unfold ebX6_split_68 ebX6_split_87
        dsimp only
        have hWx := (hW.cells (R := R) (ce := dc d i) (k := k) rfl (dg d i r).toNat (by omega))
        have hWn := hWx.1.n
        have e32 : m2 (P + 5 + 3 * i) 3 = dr d i := by rw [a4 _ (by omega), p2]
        simp only [e32]
        rw [w32_id (x := dr d i - 1) (by omega) (by omega), w32_id (x := r + 1) (by omega) (by omega)]
        have fin : ∀ b : Int, b = (if r + 1 < dr d i then 1 else 0) → (b = 0 ∨ b = 1) → T (bd2 (eX6_add g o b m2) fun v1 m2 => vv (r + 1) fun y4 => some (0, (x, y4, m2))) (G (fun q => (fun (k r : Int) (m' : Mem) => 0 ≤ r ∧ r ≤ dr d i ∧ k = rsum (dg d i) r.toNat ∧ PcC m' (pcRuns R (dc d i) (dg d i) (dr d i) r.toNat) ∧ ∀ a, (a < 6 ∨ 8 < a) → m' a = m a) q.1 q.2.1 q.2.2) (fun q => (fun (_ r : Int) => (5 - r).toNat) q.1 q.2.1) ((fun (_ r : Int) => (5 - r).toNat) k r) (fun q => PcC q.2.2.2 (pcOf d R i) ∧ ∀ a, (a < 6 ∨ 8 < a) → q.2.2.2 a = m a)) := by
          intro b hb hb2
          refine T_bd2 (tX6_add a2 a3 ⟨hWx.1.1, fun ho => by omega⟩ (by have := hWx.1.2.1; omega) hb2) ?_
          rintro rr m3 ⟨b1, b2⟩
          simp only at b1 b2
          refine T_vv (T_go ⟨by simp only; omega, by simp only; omega, ?_, ?_, fun a ha => by simp only; rw [b2 a ha, a4 a ha]⟩ (by simp only; omega))
          · simp only
            rw [hsr, a1]
          · simp only
            rw [show (r + 1).toNat = r.toNat + 1 by omega]
            show PcC m3 (pcEnd (pcCells R (dc d i) (rsum (dg d i) r.toNat) (dg d i ((r.toNat : Nat) : Int)).toNat (pcZ (pcRuns R (dc d i) (dg d i) (dr d i) r.toNat))) (if ((r.toNat : Nat) : Int) + 1 < dr d i then 1 else 0))
            rw [show ((r.toNat : Nat) : Int) = r by omega, ← h3, ← hb]
            exact b1
        refine T_if (fun hq => fin 0 (by rw [if_neg (by omega)]) (Or.inl rfl)) (fun hq => fin 1 (by rw [if_pos (by omega)]) (Or.inr rfl))
  · rintro r ⟨k, rr, m'⟩ ⟨h1, h2⟩
    exact T_some ⟨h1, h2⟩
