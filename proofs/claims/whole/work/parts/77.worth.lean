theorem worth_val {q : Pc} {e : En} {z : Int → Int} {J p k v : Int} {b : Bg} (ee : e = enQ z J q) (he : Eok e) (hq : Wq q) (hp : 0 ≤ p ∧ p < q.1) (hk : 1 ≤ k ∧ k ≤ q.2.1 p) (hb : bok b) (h46 : L46 (Lk e k.toNat (q.2.2.1 p).toNat))
    (h1 : 0 ≤ v ∧ v ≤ 1048576) (h2 : v = 1048576 ∨ ∃ y, y ∈ Lk e k.toNat (q.2.2.1 p).toNat ∧ ble (yB y) b ∧ Cw e (lS q p) (bsb b y) ≠ 1000000 ∧ v = Cw e (lS q p) (bsb b y) + yW y)
    (h3 : ∀ y, y ∈ Lk e k.toNat (q.2.2.1 p).toNat → ble (yB y) b → Cw e (lS q p) (bsb b y) ≠ 1000000 → v ≤ Cw e (lS q p) (bsb b y) + yW y) : v = cw (Cw e (lft q p k) b) := by
  have hl := hq.2.1 p hp.1 hp.2
  have hbe := hq.2.2.1 p hp.1 hp.2
  have hP : Pce e (lS q p) (q.2.1 p).toNat (q.2.2.1 p).toNat := by rw [ee]; exact Pce_q hq hp
  have h0 := lS_0 hq hp
  have hbs : ∀ y : Q4, ble (yB y) b → bok (bsb b y) := by
    intro y hy
    unfold bok bsb ble yB at *
    dsimp only at *
    omega
  have hyw : ∀ y : Q4, y ∈ Lk e k.toNat (q.2.2.1 p).toNat → 0 ≤ yW y ∧ yW y ≤ 200 := by
    intro y hy
    have := h46 y hy
    unfold yW
    omega
  have ei : ∀ y : Q4, y ∈ Lk e k.toNat (q.2.2.1 p).toNat → ble (yB y) b → Cw e (lS q p + k) b ≤ pl (Cw e (lS q p) (bsb b y)) (yW y) := by
    intro y hy hyb
    have := pc_i he h0 (n := (q.2.1 p).toNat) (by omega) (by omega) hP k.toNat (by omega) (by omega) b y hb hy hyb (by have := hyw y hy; omega)
    rw [show ((k.toNat : Nat) : Int) = k by omega] at this
    exact this
  have eii := pc_ii he h0 (n := (q.2.1 p).toNat) (by omega) (by omega) hP k.toNat (by omega) (by omega) b hb
  rw [show ((k.toNat : Nat) : Int) = k by omega] at eii
  have hvb := Cw_vb he (x := lS q p + k) hb
  unfold lft
  rw [if_pos hp.2]
  generalize hC : Cw e (lS q p + k) b = C at *
  unfold vb at hvb
  have fin : ∀ y : Q4, y ∈ Lk e k.toNat (q.2.2.1 p).toNat → ble (yB y) b → Cw e (lS q p) (bsb b y) ≠ 1000000 → Cw e (lS q p) (bsb b y) + yW y ≤ 1370 ∧ C ≤ Cw e (lS q p) (bsb b y) + yW y := by
    intro y hy hyb hyc
    have := ei y hy hyb
    unfold pl at this
    rw [if_neg hyc] at this
    have h5 := Cw_vb he (x := lS q p) (hbs y hyb)
    unfold vb at h5
    have h6 := hyw y hy
    omega
  unfold cw
  by_cases hN : C = 1000000
  · rw [if_pos hN]
    rcases h2 with q1 | ⟨y, y1, y2, y3, y4⟩
    · exact q1
    · have := fin y y1 y2 y3
      omega
  · rw [if_neg hN]
    obtain ⟨y, y1, y2, y3, y4⟩ := eii.resolve_left hN
    have h5 : Cw e (lS q p) (bsb b y) ≠ 1000000 := by
      intro q1
      unfold pl at y4
      rw [if_pos q1] at y4
      omega
    have h6 := h3 y y1 y2 h5
    unfold pl at y4
    rw [if_neg h5] at y4
    rcases h2 with q1 | ⟨y', u1, u2, u3, u4⟩
    · omega
    · have := (fin y' u1 u2 u3).2
      omega
theorem tX0_worthOf {g : Shp} {q : Pc} {e : En} {z : Int → Int} {J : Int} (ee : e = enQ z J q) (he : Eok e) (hq : Wq q) (h18 : q.1 ≤ 18) (hgk : ∀ i, 0 ≤ i → i < 24 → gk g (13 + 3 * i) = 3) :
    ∀ (n : Nat) (p : Int), 0 ≤ p → q.1 - p ≤ n → ∀ (d : Nat), n < d → ∀ (k : Int) (b : Bg) (m : Mem), bok b → (p < q.1 → 1 ≤ k ∧ k ≤ q.2.1 p) → FwM g m q e → WT m q e →
      T (eX0_worthOf d g p k b.1 b.2.1 b.2.2 m) (fun r => r.1 = cw (Cw e (lft q p k) b) ∧ WT r.2 q e ∧ ∀ a, a ≠ m 5 2 → r.2 a = m a) := by
  intro n
  induction n with
  | zero =>
    intro p p0 hn d hd k b m hb hk hf hw
    obtain ⟨d', rfl⟩ : ∃ d', d = d' + 1 := ⟨d - 1, by omega⟩
    show T (ebX0_worthOf_0 (eX0_worthOf d') g p k b.1 b.2.1 b.2.2 m) _
    unfold ebX0_worthOf_0 ebX0_worthOf_17
    rw [hf.1.1]
    refine T_it (by omega) (T_some ⟨?_, hw, fun _ _ => rfl⟩)
    unfold lft
    rw [if_neg (by omega), Cw_0 (by omega)]
    rfl
  | succ n ih =>
    intro p p0 hn d hd k b m hb hk hf hw
    obtain ⟨d', rfl⟩ : ∃ d', d = d' + 1 := ⟨d - 1, by omega⟩
    show T (ebX0_worthOf_0 (eX0_worthOf d') g p k b.1 b.2.1 b.2.2 m) _
    unfold ebX0_worthOf_0 ebX0_worthOf_17
    rw [hf.1.1]
    refine T_if (fun hc => T_some ⟨?_, hw, fun _ _ => rfl⟩) (fun hc => T_it (by omega) ?_)
    · unfold lft
      rw [if_neg (by omega), Cw_0 (by omega)]
      rfl
    · have hkk := hk (by omega)
      have hp : 0 ≤ p ∧ p < q.1 := ⟨p0, by omega⟩
      have hl12 := hq.2.1 p hp.1 hp.2
      have hbe := hq.2.2.1 p hp.1 hp.2
      have hsr := slt_r hp hb
      have hw5 := hf.2.2.1
      have hes : w32 (w32 (w32 (p * 343) + w32 (w32 (w32 (b.1 * 7) + b.2.1) * 7)) + b.2.2) = slt p b := by
        unfold bok at hb
        rw [w32_id (x := p * 343) (by omega) (by omega), w32_id (x := b.1 * 7) (by omega) (by omega), w32_id (x := b.1 * 7 + b.2.1) (by omega) (by omega), w32_id (x := (b.1 * 7 + b.2.1) * 7) (by omega) (by omega), w32_id (x := p * 343 + (b.1 * 7 + b.2.1) * 7) (by omega) (by omega), w32_id (by omega) (by omega)]
        unfold slt
        omega
      rw [hes]
      have body : ∀ fl : Int, (fl = 0 ∧ k ≠ q.2.1 p ∨ fl = 1 ∧ k = q.2.1 p) → T (ebX0_worthOf_84 (eX0_worthOf d') g p k b.1 b.2.1 b.2.2 (slt p b) fl m) (fun r => r.1 = cw (Cw e (lft q p k) b) ∧ WT r.2 q e ∧ ∀ a, a ≠ m 5 2 → r.2 a = m a) := by
        intro fl hfl
        unfold ebX0_worthOf_84
        rw [(hf.1.2 p hp.1 hp.2).2]
        refine T_ck ⟨by omega, by omega⟩ (T_bd2 (tX0_layingsOf ⟨by omega, by omega⟩ hbe) ?_)
        intro r1 m1 e1
        obtain ⟨er1, em1⟩ := Prod.mk.inj e1
        subst er1
        rw [em1]
        refine T_ck ?_ (T_bdl (worth_loop he hq h18 hp hkk hb (fun b' m' hb' hf' hw' => ?_) hf hw) ?_)
        · unfold lyA
          exact hgk _ (by omega) (by omega)
        · have := ih (p + 1) (by omega) (by omega) d' (by omega) (lfl q (p + 1)) b' m' hb' (fun hh => by unfold lfl; rw [if_pos hh]; have := hq.2.1 (p + 1) (by omega) hh; omega) hf' hw'
          rw [lft_next hp] at this
          exact this
        · rintro c ⟨v, n', m2⟩ ⟨⟨u1, u2⟩, u3, u4, u5⟩
          dsimp only at u1 u2 u3 u4 u5 ⊢
          have hl := (hf.2.1 p hp.1 hp.2 k.toNat (by omega) (by omega)).2.2.2.2
          have hv := worth_val ee he hq hp hkk hb hl u3 u4 u5
          clear u4 u5
          unfold ebX0_worthOf_236 ebX0_worthOf_250
          refine T_if (fun hz => T_some ⟨hv, u1, u2⟩) (fun hz => ?_)
          have e5 : m2 5 = m 5 := u2 5 (by omega)
          rw [e5]
          refine T_ck ⟨hsr.1, by have := hf.2.2.2; omega⟩ (T_vm' (fun m3 e3 => T_some ⟨hv, ?_, fun a ha => ?_⟩))
          · have hkl : k = q.2.1 p := by omega
            intro p' b' p0' p1' hb'
            have e35 : m3 5 = m 5 := by rw [e3, ms_f (by omega), e5]
            have hu := u1 p' b' p0' p1' hb'
            rw [e5] at hu
            dsimp only
            rw [e35, e3]
            by_cases es : slt p' b' = slt p b
            · obtain ⟨q1, q2⟩ := slt_inj hb' hb es
              rw [es, ms_at, q1, q2, ← hkl]
              exact Or.inr hv
            · rw [ms_y es]
              exact hu
          · dsimp only
            rw [e3, ms_f ha]
            exact u2 a ha
      refine T_vv (T_ck ⟨p0, by omega⟩ ?_)
      rw [(hf.1.2 p hp.1 hp.2).1]
      unfold ebX0_worthOf_58
      refine T_if (fun hz => T_ie (by decide) (T_ck ⟨hsr.1, by have := hf.2.2.2; omega⟩ (T_if (fun hy => body 1 (Or.inr ⟨rfl, hz⟩)) (fun hy => T_ck ⟨hsr.1, by have := hf.2.2.2; omega⟩ (T_some ⟨?_, hw, fun _ _ => rfl⟩))))) (fun hz => T_it rfl (body 0 (Or.inl ⟨rfl, hz⟩)))
      dsimp only
      rw [hz]
      exact (hw p b hp.1 hp.2 hb).resolve_left hy
