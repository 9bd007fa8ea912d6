theorem cU_ok {g : Shp} {m : Mem} {r : Int} (h : cU g m r = true) : (gk g r = 2 → (m r 0 = r + 1 ∧ gk g (r + 1) = 20 ∧ gl g (r + 1) = 400) ∧ (m r 1 = r + 2 ∧ gk g (r + 2) = 20 ∧ gl g (r + 2) = 9) ∧ (m r 2 = r + 3 ∧ gk g (r + 3) = 20 ∧ gl g (r + 3) = 3) ∧ (m r 3 = r + 4 ∧ gk g (r + 4) = 20 ∧ gl g (r + 4) = 3) ∧ (m r 4 = r + 5 ∧ gk g (r + 5) = 20 ∧ gl g (r + 5) = 3) ∧ (m r 5 = r + 6 ∧ gk g (r + 6) = 20 ∧ gl g (r + 6) = 9) ∧ (m r 6 = r + 7 ∧ gk g (r + 7) = 20 ∧ gl g (r + 7) = 3)) ∧ (gk g r = 6 → (m r 0 = r + 1 ∧ gk g (r + 1) = 20 ∧ gl g (r + 1) = 60) ∧ (m r 1 = r + 2 ∧ gk g (r + 2) = 20 ∧ gl g (r + 2) = 5)) ∧ (gk g r = 8 → (m r 0 = r + 1 ∧ gk g (r + 1) = 20 ∧ gl g (r + 1) = 3) ∧ (m r 1 = r + 2 ∧ gk g (r + 2) = 20 ∧ gl g (r + 2) = 9) ∧ (m r 2 = r + 3 ∧ gk g (r + 3) = 25 ∧ gl g (r + 3) = 3) ∧ (m r 3 = r + 4 ∧ gk g (r + 4) = 20 ∧ gl g (r + 4) = 400)) ∧ (gk g r = 10 → (m r 0 = r + 1 ∧ gk g (r + 1) = 20 ∧ gl g (r + 1) = 18) ∧ (m r 1 = r + 2 ∧ gk g (r + 2) = 20 ∧ gl g (r + 2) = 3) ∧ (m r 2 = r + 3 ∧ gk g (r + 3) = 20 ∧ gl g (r + 3) = 3)) ∧ (gk g r = 3 → (m r 0 = r + 1 ∧ gk g (r + 1) = 20 ∧ gl g (r + 1) = 48) ∧ (m r 1 = r + 2 ∧ gk g (r + 2) = 20 ∧ gl g (r + 2) = 16)) ∧ (gk g r = 24 → gl g r = 9 ∧ ∀ i, 0 ≤ i → i < 9 → m r i = r + (29 + 4 * i) ∧ gk g (r + (29 + 4 * i)) = 10) ∧ (gk g r = 25 → gl g r = 3 ∧ ∀ i, 0 ≤ i → i < 3 → m r i = r + (2 + 3 * i) ∧ gk g (r + (2 + 3 * i)) = 6) ∧ (gk g r = 26 → gl g r = 24 ∧ ∀ i, 0 ≤ i → i < 24 → m r i = r + (4 + 3 * i) ∧ gk g (r + (4 + 3 * i)) = 3) ∧ (gk g r = 23 → ∀ i, 0 ≤ i → i < gl g r → gk g (m r i) = 2) := by
  unfold cU at h
  simp only [Bool.and_eq_true] at h
  obtain ⟨u2, u6, u8, u10, u3, u24, u25, u26, u23⟩ := h
  have ar : ∀ {a n : Int} {k : Nat} {f : Int → Int} (c : Nat), n = (c : Int) → (decide (a = n) && allI (fun i => decide (m r i = f i) && decide (gk g (f i) = k)) c) = true → a = n ∧ ∀ i, 0 ≤ i → i < n → m r i = f i ∧ gk g (f i) = k := by
    intro a n k f c hn hq
    rw [Bool.and_eq_true, decide_eq_true_eq] at hq
    refine ⟨hq.1, fun i h0 h1 => ?_⟩
    have := allI_ok hq.2 h0 (by omega)
    rw [Bool.and_eq_true, decide_eq_true_eq, decide_eq_true_eq] at this
    exact this
  refine ⟨fun hk => ?_, fun hk => ?_, fun hk => ?_, fun hk => ?_, fun hk => ?_, fun hk => ar (a := gl g r) (n := 9) (f := fun i => r + (29 + 4 * i)) 9 rfl (im_ok u24 hk), fun hk => ar (a := gl g r) (n := 3) (f := fun i => r + (2 + 3 * i)) 3 rfl (im_ok u25 hk), fun hk => ar (a := gl g r) (n := 24) (f := fun i => r + (4 + 3 * i)) 24 rfl (im_ok u26 hk), fun hk i h0 h1 => ?_⟩
  · have q := im_ok u2 hk
    simp only [Bool.and_eq_true] at q
    exact ⟨e3_ok q.1, e3_ok q.2.1, e3_ok q.2.2.1, e3_ok q.2.2.2.1, e3_ok q.2.2.2.2.1, e3_ok q.2.2.2.2.2.1, e3_ok q.2.2.2.2.2.2⟩
  · have q := im_ok u6 hk
    simp only [Bool.and_eq_true] at q
    exact ⟨e3_ok q.1, e3_ok q.2⟩
  · have q := im_ok u8 hk
    simp only [Bool.and_eq_true] at q
    exact ⟨e3_ok q.1, e3_ok q.2.1, e3_ok q.2.2.1, e3_ok q.2.2.2⟩
  · have q := im_ok u10 hk
    simp only [Bool.and_eq_true] at q
    exact ⟨e3_ok q.1, e3_ok q.2.1, e3_ok q.2.2⟩
  · have q := im_ok u3 hk
    simp only [Bool.and_eq_true] at q
    exact ⟨e3_ok q.1, e3_ok q.2⟩
  · have q := allI_ok (im_ok u23 hk) h0 (by omega)
    rw [decide_eq_true_eq] at q
    exact q
theorem cSh_ok {g : Shp} {m : Mem} (hG : gOk g) (hn : gn g = 267) (h : cSh g m = true) (hu1 : cU1 g m = true) (hu2 : cU2 g m = true) : Sh g m := by
  unfold cSh at h
  simp only [Bool.and_eq_true, List.all_eq_true, decide_eq_true_eq] at h
  obtain ⟨hT, hR, h1, h2, h3⟩ := h
  refine ⟨fun q hq => hT q hq, fun q hq => hR q hq, ⟨h1, h2, h3⟩, fun r => ?_⟩
  by_cases hr : 1 ≤ r ∧ r ≤ 267
  · by_cases hr2 : r < 95
    · have q := allI_ok (i := r - 1) hu1 (by omega) (by omega)
      rw [show r - 1 + 1 = r by omega] at q
      exact cU_ok q
    · have q := allI_ok (i := r - 95) hu2 (by omega) (by omega)
      rw [show r - 95 + 95 = r by omega] at q
      exact cU_ok q
  · have h0 : gk g r = 0 := Decidable.byContradiction (fun hne => hr (by have := hG.1 r hne; rw [hn] at this; omega))
    rw [h0]
    exact ⟨fun hk => absurd hk (by decide), fun hk => absurd hk (by decide), fun hk => absurd hk (by decide), fun hk => absurd hk (by decide), fun hk => absurd hk (by decide), fun hk => absurd hk (by decide), fun hk => absurd hk (by decide), fun hk => absurd hk (by decide), fun hk => absurd hk (by decide)⟩
def wlC (d : Dt) (i : Int) : Bool := decide (1 ≤ dr d i ∧ dr d i ≤ 5) && (allI (fun r => decide (1 ≤ dg d i r ∧ dg d i r ≤ 12)) (dr d i).toNat && (decide (rsum (dg d i) (dr d i).toNat = dn d i)
  && (allI (fun k => decide (0 ≤ dc d i k ∧ dc d i k < 400)) (dn d i).toNat && allI (fun j => allI (fun k => decide (dc d i k ≠ dc d i j)) j.toNat) (dn d i).toNat)))
theorem wlC_ok {d : Dt} {i : Int} (h : wlC d i = true) : WLine d i := by
  unfold wlC at h
  simp only [Bool.and_eq_true] at h
  obtain ⟨h1, h2, h3, h4, h5⟩ := h
  rw [decide_eq_true_eq] at h1 h3
  refine ⟨h1, fun r a b => ?_, h3, fun k a b => ?_, fun k j a b c => ?_⟩
  · have q := allI_ok h2 a (by omega)
    rw [decide_eq_true_eq] at q
    exact q
  · have q := allI_ok h4 a (by omega)
    rw [decide_eq_true_eq] at q
    exact q
  · have q := allI_ok h5 (i := j) (by omega) (by omega)
    have q2 := allI_ok q a (by omega)
    rw [decide_eq_true_eq] at q2
    exact q2
theorem d0_chk : allI (fun i => wlC d0 i) 3 = true := by decide +kernel
theorem d0_wl {i : Int} (h0 : 0 ≤ i) (h1 : i < dl d0) : WLine d0 i := wlC_ok (allI_ok d0_chk h0 h1)
theorem cl_chk : allI (fun i => decide ((cl i).length = (dn d0 i).toNat) && allI (fun k => decide (lk (cl i) k = dc d0 i k)) (dn d0 i).toNat) 3 = true := by decide +kernel
theorem lk_mem {l : List Int} {c : Int} : c ∈ l ↔ ∃ k : Int, 0 ≤ k ∧ k < (l.length : Int) ∧ lk l k = c := by
  constructor
  · intro h
    obtain ⟨n, hn, e⟩ := List.mem_iff_getElem.mp h
    refine ⟨(n : Int), by omega, by omega, ?_⟩
    unfold lk
    rw [Int.toNat_natCast, List.getD_eq_getElem?_getD, List.getElem?_eq_getElem hn]
    exact e
  · rintro ⟨k, k0, k1, e⟩
    have hk : k.toNat < l.length := by omega
    unfold lk at e
    rw [List.getD_eq_getElem?_getD, List.getElem?_eq_getElem hk] at e
    exact List.mem_iff_getElem.mpr ⟨k.toNat, hk, e⟩
theorem hasN_ok {i c : Int} (h0 : 0 ≤ i) (h1 : i < 3) : hasN i c = true ↔ ∃ k, 0 ≤ k ∧ k < dn d0 i ∧ dc d0 i k = c := by
  have q := allI_ok cl_chk h0 h1
  rw [Bool.and_eq_true, decide_eq_true_eq] at q
  obtain ⟨q1, q2⟩ := q
  have hm := (d0_wl h0 h1).mx
  have e1 : hasN i c = true ↔ c ∈ cl i := by
    unfold hasN
    rw [List.any_eq_true]
    constructor
    · rintro ⟨x, x1, x2⟩
      rw [decide_eq_true_eq] at x2
      rw [← x2]
      exact x1
    · intro x
      exact ⟨c, x, by rw [decide_eq_true_eq]⟩
  rw [e1, lk_mem]
  constructor
  · rintro ⟨k, k0, k1, e⟩
    have q3 := allI_ok q2 k0 (by omega)
    rw [decide_eq_true_eq] at q3
    exact ⟨k, k0, by omega, q3.symm.trans e⟩
  · rintro ⟨k, k0, k1, e⟩
    have q3 := allI_ok q2 k0 (by omega)
    rw [decide_eq_true_eq] at q3
    exact ⟨k, k0, by omega, q3.trans e⟩
theorem sh_o {f : Int → Bool} {o : Int} {n : Nat} (h : allI (fun k => f (k + o)) n = true) {i : Int} (h0 : o ≤ i) (h1 : i < o + (n : Int)) : f i = true := by
  have q := allI_ok (i := i - o) h (by omega) (by omega)
  rw [show i - o + o = i by omega] at q
  exact q
theorem ov0_bit (c : Int) : ov0 c < 8 ∧ ∀ i : Nat, i < 3 → ((ov0 c).testBit i = true ↔ hasN i c = true) := by
  have h0 : ((0 : Nat) : Int) = 0 := rfl
  have h1 : ((1 : Nat) : Int) = 1 := rfl
  have h2 : ((2 : Nat) : Int) = 2 := rfl
  unfold ov0
  refine ⟨?_, fun i hi => ?_⟩
  · generalize hasN 0 c = a; generalize hasN 1 c = b; generalize hasN 2 c = e
    cases a <;> cases b <;> cases e <;> decide
  · rcases (show i = 0 ∨ i = 1 ∨ i = 2 by omega) with rfl | rfl | rfl
    · rw [h0]
      generalize hasN 0 c = a; generalize hasN 1 c = b; generalize hasN 2 c = e
      cases a <;> cases b <;> cases e <;> decide
    · rw [h1]
      generalize hasN 0 c = a; generalize hasN 1 c = b; generalize hasN 2 c = e
      cases a <;> cases b <;> cases e <;> decide
    · rw [h2]
      generalize hasN 0 c = a; generalize hasN 1 c = b; generalize hasN 2 c = e
      cases a <;> cases b <;> cases e <;> decide
theorem allI_d {f : Int → Prop} [∀ i, Decidable (f i)] {n : Nat} (h : allI (fun i => decide (f i)) n = true) (c : Int) (hc : c = (n : Int)) : ∀ i, 0 ≤ i → i < c → f i := by
  intro i h0 h1
  have q := allI_ok h h0 (by omega)
  rw [decide_eq_true_eq] at q
  exact q
theorem cD_ok {m : Mem} (h : cD m = true) : DEq (dt m) d0 := by
  unfold cD at h
  simp only [Bool.and_eq_true] at h
  obtain ⟨h1, h2, h3, h4, h5, h6⟩ := h
  rw [decide_eq_true_eq] at h1
  have h2 := allI_d h2 3 rfl
  have h3 := allI_d h3 3 rfl
  have h4 := allI_d h4 15 rfl
  have h5 := allI_d h5 3 rfl
  have h6 := allI_d h6 180 rfl
  refine ⟨h1, h2, fun i a b => ?_⟩
  have b3 : i < 3 := b
  have hw := d0_wl a b
  refine ⟨h3 i a b3, h5 i a b3, fun r r0 r1 => h4 (5 * i + r) (by omega) ?_, fun k k0 k1 => h6 (60 * i + k) (by omega) ?_⟩
  · have := hw.1.2; omega
  · have := hw.mx.2; omega
theorem cP_ok {m : Mem} (h : cP m = true) (ho1 : cO m 0 200 = true) (ho2 : cO m 200 200 = true) : IPl m 191 d0 := by
  unfold cP at h
  simp only [Bool.and_eq_true] at h
  obtain ⟨h1, h2, h3⟩ := h
  rw [decide_eq_true_eq] at h2
  have h1 := allI_d h1 3 rfl
  have h4 : ∀ c, 0 ≤ c → c < 400 → m 195 c = ((ov0 c : Nat) : Int) := by
    intro c a b
    by_cases hc : c < 200
    · have q := sh_o (f := fun c => decide (m 195 c = ((ov0 c : Nat) : Int))) ho1 a (by omega)
      rw [decide_eq_true_eq] at q
      exact q
    · have q := sh_o (f := fun c => decide (m 195 c = ((ov0 c : Nat) : Int))) ho2 (i := c) (by omega) (by omega)
      rw [decide_eq_true_eq] at q
      exact q
  refine ⟨h1, h2, fun i a b => ?_, fun c a b => ?_⟩
  · have b3 : i < 3 := b
    have q := allI_ok h3 a b3
    simp only [Bool.and_eq_true, decide_eq_true_eq] at q
    obtain ⟨q1, q2, q3, q4⟩ := q
    have hw := d0_wl a b
    have hm := hw.mx
    exact ⟨q1, q2, allI_d q3 _ (by omega), allI_d q4 _ (by have := hw.1.1; omega)⟩
  · obtain ⟨o1, o2⟩ := ov0_bit c
    refine ⟨ov0 c, o1, h4 c a b, fun i hi => ?_⟩
    rw [o2 i hi, hasN_ok (by omega) (by omega)]
    exact ⟨fun q => ⟨by show (i : Int) < 3; omega, q⟩, fun q => q.2⟩
theorem cI_ok {g : Shp} {m : Mem} (hn : gn g = 267) (hs : gs g ≤ 100000) (h1 : cD m = true) (h2 : cP m = true) (ho1 : cO m 0 200 = true) (ho2 : cO m 200 200 = true) (h3 : cR1 m 0 433 = true) (hq1 : cR2 m 0 220 = true) (hq2 : cR2 m 220 213 = true) (h4 : cM m = true) : Inv g m := by
  have hD := cD_ok h1
  have hP := cP_ok h2 ho1 ho2
  unfold cM at h4
  simp only [Bool.and_eq_true] at h4
  obtain ⟨a1, a2, a3, a4, a5, a6, a7, a8, a9, a10, a11, a12⟩ := h4
  rw [decide_eq_true_eq] at a1 a2 a3 a4 a5 a6 a7 a8
  have a9 := allI_d a9 6 rfl
  have a10 := allI_d a10 9 rfl
  have a11 := allI_d a11 3 rfl
  have a12 := allI_d a12 24 rfl
  have hr : RowEq (m 242) (layR 0 b0) ∧ RowEq (rowC m 85) (layR 0 b0) := by
    refine ⟨fun k x y => ?_, fun k x y => ?_⟩
    · have q := sh_o (f := fun k => decide (m 242 k = layR 0 b0 k)) h3 x (by omega)
      rw [decide_eq_true_eq] at q
      exact q
    · by_cases hk : k < 220
      · have q := sh_o (f := fun k => decide (rowC m 85 k = layR 0 b0 k)) hq1 x (by omega)
        rw [decide_eq_true_eq] at q
        exact q
      · have q := sh_o (f := fun k => decide (rowC m 85 k = layR 0 b0 k)) hq2 (i := k) (by omega) (by omega)
        rw [decide_eq_true_eq] at q
        exact q
  have hW : WPl (dt m) := by
    have e : dl (dt m) = 3 := hD.1
    have z0 : dz (dt m) 0 = 2 := hD.2.1 0 (by decide) (by decide)
    have z1 : dz (dt m) 1 = 3 := hD.2.1 1 (by decide) (by decide)
    have z2 : dz (dt m) 2 = 5 := hD.2.1 2 (by decide) (by decide)
    refine ⟨by omega, by omega, fun i x y => ?_⟩
    have y3 : i < dl d0 := by rw [← hD.1]; exact y
    exact hD.wl ⟨x, y3⟩ (d0_wl x y3)
  have bk : allI (fun k => decide (0 ≤ b0 k ∧ b0 k ≤ 6)) 9 = true := by decide +kernel
  have hb := allI_d bk 9 rfl
  refine ⟨⟨⟨by omega, by omega, fun k x y => by omega⟩, hW, Or.inr ⟨a3, a4⟩, ?_, ⟨RowEq.tr hr.2 hr.1.sy, ?_⟩, ?_⟩, Or.inl ⟨a5, by omega, hs⟩, ?_, ?_, Or.inl a8, a11⟩
  · rw [a3]
    exact hD.ipl (fun i x y => d0_wl x y) hP
  · exact WRow.c hW.1.2 (layR_w (d := dt m) (j := 0) (b := b0) (by decide) hb) hr.1
  · refine ⟨⟨by omega, fun i x y => ⟨i, x, y, a9 i x y⟩, fun i j x y z => ?_⟩, by omega, fun i x y => by omega⟩
    rw [a9 i x (by omega), a9 j (by omega) z]
    omega
  · intro k bent k1 k2 hb2
    refine Or.inl ?_
    unfold lyA
    exact a12 (2 * ((k : Int) - 1) + (bent : Int)) (by omega) (by omega)
  · intro i c i0 i1 c0 c1
    refine Or.inl ?_
    unfold wyA
    exact a10 (3 * i + c) (by omega) (by omega)
theorem st_all : ∃ (r1 : Int) (g1 : Shp) (m1 : Mem), stA = some (r1, g1, m1) ∧ gn g1 = 240 ∧ ∃ (r2 : Int) (g2 : Shp) (m2 : Mem), stB g1 m1 = some (r2, g2, m2) ∧ Sh g2 m2 ∧ gOk g2 ∧ Inv g2 m2 := by
  obtain ⟨r1, g1, m1, e1, q⟩ := okv_ok st_ok1
  have hq : ∀ {f : Shp → Mem → Bool}, okv stA (stF f) = true → stF f g1 m1 = true := by
    intro f h
    rw [e1] at h
    exact h
  have n1 : gn g1 = 240 := by
    unfold stF at q
    rw [Bool.and_eq_true, decide_eq_true_eq] at q
    exact q.1
  have q2 : okv (stB g1 m1) cSh = true := by
    unfold stF at q
    rw [Bool.and_eq_true] at q
    exact q.2
  obtain ⟨r2, g2, m2, e2, p3⟩ := okv_ok q2
  have hp : ∀ {f : Shp → Mem → Bool}, okv stA (stF f) = true → f g2 m2 = true := by
    intro f h
    have h2 := hq h
    unfold stF at h2
    rw [Bool.and_eq_true] at h2
    have h3 := h2.2
    rw [e2] at h3
    exact h3
  have p4 := hp st_ok2
  have p5 := hp st_ok3
  have p6 := hp st_ok4
  have p7 := hp st_ok5
  unfold cDP at p6
  unfold cN at p7
  simp only [Bool.and_eq_true, decide_eq_true_eq] at p6 p7
  obtain ⟨p1, p2, p8, p9⟩ := p7
  have G0 : gOk (gA gZ 11 0 8) := gA_ok gZ_ok ⟨by decide, by decide, by decide⟩ rfl
  have G1 : gOk g1 := (xX10_init_0 (show bX10_init_0 1 (gA gZ 11 0 8) (mA gZ mZ) = some (r1, g1, m1) from e1) G0).2
  have G2 : gOk (gA g1 12 0 39) := gA_ok G1 ⟨by rw [n1]; decide, by decide, by decide⟩ rfl
  have G3 : gOk g2 := (xX11_init_0 (show bX11_init_0 241 (gA g1 12 0 39) (mA g1 m1) = some (r2, g2, m2) from e2) G2).2
  exact ⟨r1, g1, m1, e1, n1, r2, g2, m2, e2, cSh_ok G3 p1 p3 p4 p5, G3, cI_ok p1 p2 p6.1 p6.2 (hp st_ok6) (hp st_ok7) p8 (hp st_ok8) (hp st_ok9) p9⟩
