theorem hW2 {d : Dt} {R S : Int → Int} (hl : dl d ≤ 3) (hW : WRow d R) (h : RowEq S R) : WRow d S := hW.c hl h
/-- the stones of a way are as they can be -/
theorem WSq_of {d : Dt} {R : Int → Int} {i c : Int} (hd : WPl d) (hi : 0 ≤ i ∧ i < dl d) (hW : WRow d R) (hc : 0 ≤ c ∧ c ≤ 2) (hC : cR d R i c ≠ 1000000) : WSq (dz d) (sR d R i c) (cR d R i c % 32).toNat := by
  have hwl := hd.2.2 i hi.1 hi.2
  have hq := Wq_of hwl R
  have he : Eok (enR d R i) := ⟨hd.2.1, hW.1⟩
  have hb : bok (bR R c) := ⟨hW.2.1 _ (by omega) (by omega), hW.2.1 _ (by omega) (by omega), hW.2.1 _ (by omega) (by omega)⟩
  intro j hj
  have hle : (j : Int) ≤ cR d R i c % 32 := by omega
  obtain ⟨⟨p', k', hPn⟩, hbb, hCn, hmn⟩ := tr_all hq he hb (Pos_0 hq) hC j hle
  have hmn : Cw (enR d R i) (tr (enR d R i) (xR d R i) (bR R c) j).1 (tr (enR d R i) (xR d R i) (bR R c) j).2 % 32 = cR d R i c % 32 - j := hmn
  have hCn : Cw (enR d R i) (tr (enR d R i) (xR d R i) (bR R c) j).1 (tr (enR d R i) (xR d R i) (bR R c) j).2 ≠ 1000000 := hCn
  have hx0 : 0 < (tr (enR d R i) (xR d R i) (bR R c) j).1 := by
    by_cases q1 : 0 < (tr (enR d R i) (xR d R i) (bR R c) j).1
    · exact q1
    · rw [Cw_0 (by omega)] at hmn
      omega
  have hv := (FS_ex he hx0 hCn).1.1
  have hz := he.z hv.1.1
  exact ⟨hv.1.1, ⟨hv.1.2, hv.2.2.1, hz.2⟩, asl1_r _ _ _ _⟩
/-! ===== order: the reference's side ===== -/
theorem pm_cons {k : Nat} {u : U3} {t : Int} {ts : List Int} (h : (t :: ts) ∈ pm (k + 1) u) : uo u t = true ∧ ts ∈ pm k (ud u t) := by
  have hJ : ∀ j, (t :: ts) ∈ pmJ (pm k) u j → uo u t = true ∧ ts ∈ pm k (ud u t) := by
    intro j hj
    unfold pmJ at hj
    by_cases q : uo u j = true
    · rw [if_pos q] at hj
      obtain ⟨ts', h1, h2⟩ := List.mem_map.mp hj
      have e := List.cons.inj h2
      rw [← e.1, ← e.2]
      exact ⟨q, h1⟩
    · rw [if_neg q] at hj
      exact absurd hj (by simp)
  unfold pm at h
  by_cases q : (u.1 || u.2.1 || u.2.2) = false
  · rw [if_pos q] at h
    exact absurd h (by simp)
  · rw [if_neg q, List.mem_append, List.mem_append] at h
    rcases h with h | h | h
    · exact hJ 0 h
    · exact hJ 1 h
    · exact hJ 2 h
theorem dt_m {m m' : Mem} {d : Dt} (h : dt m = d) (h241 : m' 241 20 = m 241 20) (hx : ∀ a, 252 ≤ a → a ≤ 256 → m' a = m a) : dt m' = d := by rw [← h]; exact dt_c h241 hx
/-- what the search by codes leaves as it is -/
def OrF (m m' : Mem) : Prop := (∀ b, b ≠ 27 → b ≠ 35 → b ≠ 36 → m' 241 b = m 241 b) ∧ ∀ a, a ≠ 241 → a ≠ 242 → a ≠ 243 → (a < 257 ∨ 265 < a) → m' a = m a
theorem OrF.rf (m : Mem) : OrF m m := ⟨fun _ _ _ _ => rfl, fun _ _ _ _ _ => rfl⟩
theorem OrF.tr {m m' m'' : Mem} (h : OrF m m') (h2 : OrF m' m'') : OrF m m'' := ⟨fun b b1 b2 b3 => (h2.1 b b1 b2 b3).trans (h.1 b b1 b2 b3), fun a a1 a2 a3 a4 => (h2.2 a a1 a2 a3 a4).trans (h.2 a a1 a2 a3 a4)⟩
theorem tX11_cutsByTurns {g : Shp} {m : Mem} {d : Dt} {cs R : Int → Int} {ts : List Int} (hT : ShT g) (hd : WPl d) (hdt : dt m = d) (hcs : ∀ i, 0 ≤ i → i < 3 → 0 ≤ cs i ∧ cs i ≤ 2) (h266 : ∀ i, 0 ≤ i → i < 3 → m 266 i = cs i) (hr : RowEq (m 242) R) (hW : WRow d R) (hts : ts ∈ pm 3 (uR d R)) (hlen : ts.length ≤ 3) (h267 : ∀ j : Nat, j < ts.length → m 267 j = ts.getD j 0) :
    T (eX11_cutsByTurns g ts.length m) (fun r => r.1 = vT d cs ts R ∧ RowEq (r.2 242) R ∧ OrF m r.2) := by
  have g242 : gl g 242 = 433 := (hT (242, 20, 433) (by decide)).2
  have g243 : gl g 243 = 433 := (hT (243, 20, 433) (by decide)).2
  have hl := hd.1.2
  unfold eX11_cutsByTurns ebX11_cutsByTurns_0
  refine T_bd2 (tX11_bring (by decide) (by decide) (by omega) (by decide) (by omega) (by omega) (by omega)) ?_
  intro r1 m1 e1
  obtain ⟨_, em1⟩ := Prod.mk.inj e1
  have f1 : ∀ a, a ≠ 243 → m1 a = m a := fun a ha => by rw [em1, mcp_f ha]
  have e243 : ∀ k, 0 ≤ k → k < 433 → m1 243 k = m 242 k := fun k a b => by rw [em1, mcp_in (by omega) (by omega)]; congr 1; omega
  refine T_bdl (Q := fun r => r.2.1 = vT d cs ts R ∧ OrF m1 r.2.2.2 ∧ r.2.2.2 243 = m1 243)
    (iter2 (fun v k m' => (0 ≤ k ∧ k ≤ ts.length) ∧ (OrF m1 m' ∧ m' 243 = m1 243) ∧ ((v = 1000000 ∧ vT d cs ts R = 1000000) ∨ (0 ≤ v ∧ v ≤ 100 * k) ∧ ∃ (S : Int → Int) (rs : List Int), RowEq (m' 242) S ∧ WRow d S ∧ rs ∈ pm (3 - k.toNat) (uR d S) ∧ (rs.length : Int) = ts.length - k ∧ (∀ j : Nat, j < rs.length → m' 267 (k + j) = rs.getD j 0) ∧ pl (vT d cs rs S) v = vT d cs ts R)) (fun _ k => (ts.length - k).toNat)
      ⟨by omega, ⟨OrF.rf m1, rfl⟩, Or.inr ⟨by decide, R, ts, by rw [f1 242 (by decide)]; exact hr, hW, hts, by omega, fun j hj => by rw [f1 267 (by decide), show (0 : Int) + (j : Int) = j by omega]; exact h267 j hj, ?_⟩⟩ (by omega) ?_) ?_
  · unfold pl
    split
    · rename_i q; exact q.symm
    · omega
  · rintro v k m' ⟨k1, ⟨x1, x2⟩, x3⟩
    unfold eBX11_cutsByTurns_17 ebX11_cutsByTurns_17 ebX11_cutsByTurns_86
    simp only
    have es : (k + 1).toNat = k.toNat + 1 := by omega
    refine T_if (fun c => T_out (by decide) ⟨?_, x1, x2⟩) (fun c => T_if (fun c2 => T_out (by decide) ⟨?_, x1, x2⟩) (fun c2 => ?_))
    · rcases x3 with ⟨q1, q2⟩ | ⟨q0, S, rs, q1, q2, q3, q4, q5, q6⟩
      · dsimp only; rw [q1, q2]
      · have : rs = [] := List.length_eq_zero_iff.mp (by omega)
        rw [this] at q6
        have e : pl (vT d cs [] S) v = v := by
          show pl 0 v = v
          unfold pl
          rw [if_neg (by decide)]; omega
        rw [e] at q6
        exact q6
    · rcases x3 with ⟨q1, q2⟩ | ⟨q0, _⟩
      · dsimp only; rw [q1, q2]
      · exfalso; omega
    · obtain ⟨q0, S, rs, q1, q2, q3, q4, q5, q6⟩ := x3.resolve_left (fun q => by omega)
      cases rs with
      | nil => exfalso; simp at q4; omega
      | cons t rs =>
        have hk3 : 3 - k.toNat = (3 - (k.toNat + 1)) + 1 := by omega
        rw [hk3] at q3
        obtain ⟨hto, hrs⟩ := pm_cons q3
        have ho := uR_o.mp hto
        have hct := hcs t ho.1.1 ho.1.2
        have e267 : m' 267 k = t := by
          have := q5 0 (by simp)
          rw [show k + ((0 : Nat) : Int) = k by omega] at this
          exact this
        have e266 : m' 266 t = cs t := by rw [x1.2 266 (by decide) (by decide) (by decide) (by decide), f1 266 (by decide)]; exact h266 t ho.1.1 ho.1.2
        simp only [e267, e266]
        have hdt' : dt m' = d := dt_m hdt (by rw [x1.1 20 (by decide) (by decide) (by decide), f1 241 (by decide)]) (fun a a1 a2 => by rw [x1.2 a (by omega) (by omega) (by omega) (by omega), f1 a (by omega)])
        have hW' : WRow d (m' 242) := hW2 hl q2 q1
        have hfw := tX11_findWay (g := g) (m := m') (d := d) (i := t) (c := cs t) hdt' hd ⟨ho.1.1, ho.2.1⟩ hW' hct
        have hcr := cR_c (hd.2.2 t ho.1.1 ho.2.1) q1 hct
        rw [hcr.1] at hfw
        have hlen4 : (rs.length : Int) = ts.length - (k + 1) := by
          have : ((t :: rs).length : Int) = rs.length + 1 := by simp
          omega
        refine T_ck ⟨by omega, by omega⟩ (T_ck ⟨by omega, by omega⟩ (T_ck ⟨ho.1.1, ho.1.2⟩ (T_bd2 hfw ?_)))
        rintro r3 m3 ⟨w1, w2⟩
        dsimp only at w1 w2
        have o3 : OrF m' m3 := ⟨w1.1, fun a a1 a2 a3 a4 => w1.2 a a1 a4⟩
        rw [w32_id (x := k + 1) (by omega) (by omega)]
        rcases w2 with ⟨w3, w4⟩ | ⟨w3, w4, w5⟩
        · subst w3
          refine T_it rfl (T_vv (T_go ⟨⟨by simp only; omega, by simp only; omega⟩, ⟨x1.tr o3, by simp only; rw [w1.2 243 (by decide) (by decide)]; exact x2⟩, Or.inl ⟨rfl, ?_⟩⟩ (by simp only; omega)))
          rw [← q6]
          have : vT d cs (t :: rs) S = 1000000 := by
            show (if cR d S t (cs t) = 1000000 then 1000000 else _) = _
            rw [if_pos w4]
          rw [this]; rfl
        · subst w3
          have hcb := (cR_b (i := t) hd q2 hct).resolve_left w4
          have e3267 : m3 267 k = t := by rw [w1.2 267 (by decide) (by decide)]; exact e267
          have e3266 : m3 266 t = cs t := by rw [w1.2 266 (by decide) (by decide)]; exact e266
          refine T_ie (by decide) ?_
          simp only [e3267, e3266]
          have hr3 : ∀ j, 0 ≤ j → j < 433 → m3 242 j = S j := fun j a b => by rw [w1.2 242 (by decide) (by decide)]; exact q1 j a b
          have hdt3 : dt m3 = d := dt_m hdt' (w1.1 20 (by decide) (by decide) (by decide)) (fun a a1 a2 => w1.2 a (by omega) (by omega))
          have hWS : WSq (dz d) (sR d S t (cs t)) (cR d S t (cs t) % 32).toNat := WSq_of hd ⟨ho.1.1, ho.2.1⟩ q2 hct w4
          have w5' : RWay m3 d S t (cs t) := by
            unfold RWay at w5 ⊢
            rw [hcr.1, hcr.2] at w5
            exact w5
          refine T_ck ⟨by omega, by omega⟩ (T_ck ⟨by omega, by omega⟩ (T_ck ⟨ho.1.1, ho.1.2⟩ (T_bd2 (tX11_coverBy (g := g) hd hdt3 ⟨ho.1.1, ho.2.1⟩ hr3 q2 ho.2.2 hct w4 w5' hWS g242) ?_)))
          rintro r4 m4 ⟨z1, z2⟩
          dsimp only at z1 z2
          rw [z2 241 (by decide), w5'.1, w32_id (x := v + cR d S t (cs t) / 32) (by omega) (by omega)]
          have o4 : OrF m3 m4 := ⟨fun b _ _ _ => by rw [z2 241 (by decide)], fun a a1 a2 a3 a4 => z2 a a2⟩
          have huR : uR d (covR d S t (cs t)) = ud (uR d S) t := uR_cov ho.1 hct
          refine T_vv (T_vv (T_go ⟨⟨by simp only; omega, by simp only; omega⟩, ⟨(x1.tr o3).tr o4, by simp only; rw [z2 243 (by decide), w1.2 243 (by decide) (by decide)]; exact x2⟩, Or.inr ⟨⟨by simp only; omega, by simp only; omega⟩, covR d S t (cs t), rs, z1, covR_w hd ⟨ho.1.1, ho.2.1⟩ q2 hct w4 ho.2.2, ?_, ?_, fun j hj => ?_, ?_⟩⟩ (by simp only; omega)))
          · simp only [es]; rw [huR]; exact hrs
          · simp only; exact hlen4
          · simp only
            rw [z2 267 (by decide), w1.2 267 (by decide) (by decide)]
            have := q5 (j + 1) (by simp; omega)
            rw [show k + 1 + (j : Int) = k + ((j + 1 : Nat) : Int) by omega]
            exact this
          · simp only
            rw [← q6]
            have hb := vT_b hd hcs _ _ (covR_w hd ⟨ho.1.1, ho.2.1⟩ q2 hct w4 ho.2.2) rs (by rw [huR]; exact hrs)
            have e : vT d cs (t :: rs) S = pl (vT d cs rs (covR d S t (cs t))) (cR d S t (cs t) / 32) := by
              show (if cR d S t (cs t) = 1000000 then 1000000 else _) = _
              rw [if_neg w4]
            rw [e]
            unfold pl
            by_cases q : vT d cs rs (covR d S t (cs t)) = 1000000
            · rw [if_pos q, if_pos q, if_pos rfl]
            · have := hb.resolve_left q
              rw [if_neg q, if_neg q, if_neg (by omega)]; omega
  · rintro cc ⟨v, k, m2⟩ ⟨a1, a2, a3⟩
    dsimp only at a1 a2 a3
    unfold ebX11_cutsByTurns_92
    dsimp only
    refine T_bd2 (tX11_bring (by decide) (by decide) (by omega) (by decide) (by omega) (by omega) (by omega)) ?_
    intro r3 m3 e3
    obtain ⟨_, em3⟩ := Prod.mk.inj e3
    refine T_some ⟨a1, fun j j0 j1 => ?_, fun b b1 b2 b3 => ?_, fun a b1 b2 b3 b4 => ?_⟩
    · dsimp only
      rw [em3, mcp_in (by omega) (by omega), a3, show (0 : Int) + (j - 0) = j by omega, e243 j j0 j1]
      exact hr j j0 j1
    · dsimp only
      rw [em3, mcp_x (by decide), a2.1 b b1 b2 b3, f1 241 (by decide)]
    · dsimp only
      rw [em3, mcp_f b2, a2.2 a b1 b2 b3 b4, f1 a b3]
