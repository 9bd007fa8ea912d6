def bgK (t : Int → Int) (n a : Int) (B : Int → Int) (k i : Int) : Int := if 3 * nv t n a ≤ i ∧ i < 3 * nv t n a + k then nv t n (ps t n a (i - 3 * nv t n a + 1).toNat) else B i
theorem tX11_readTheBag {g : Shp} {m : Mem} {t : Int → Int} {n a : Int} (h : TxR m t n a) (ha : a ≤ 900) :
    T (eX11_readTheBag g m) (fun q => (∀ b, b ≠ 6 → q.2 241 b = m 241 b) ∧ (∀ x, x ≠ 241 → x ≠ 247 → q.2 x = m x)
      ∧ ((q.1 = 1 ∧ okB t n a ∧ q.2 241 6 = ps t n a 4 ∧ ∀ k, 0 ≤ k → k < 9 → q.2 247 k = bgV t n a (m 247) k) ∨ q.1 = 0 ∧ ¬ okB t n a)) := by
  have h00 := h.2.2.2.2.1
  unfold eX11_readTheBag ebX11_readTheBag_0
  refine T_bd2 (rNum h) ?_
  rintro v1 m1 ⟨a1, b1, c1⟩
  dsimp only at a1 b1 c1
  have r1 := nf_r t n a
  refine T_bd2 tX11_isColour ?_
  intro v2 m2 e
  cases e
  have hbc : TxR m1 t n (a + nf t n a) := h.c c1 b1 (by omega)
  have e0 : ps t n a 0 = a := rfl
  have e1 : ps t n a 1 = a + nf t n a + 1 := rfl
  refine T_bdl (Q := fun q => ((∀ b, b ≠ 6 → q.2.2.2 241 b = m 241 b) ∧ (∀ x, x ≠ 241 → x ≠ 247 → q.2.2.2 x = m x)) ∧ ((q.2.1 = 1 ∧ (0 ≤ v1 ∧ v1 ≤ 2) ∧ nmOk t n a 0 6 4 ∧ q.2.2.2 241 6 = ps t n a 4 - 1 ∧ ∀ i, q.2.2.2 247 i = bgK t n a (m 247) 3 i) ∨ q.2.1 = 0 ∧ ¬ okB t n a))
    (iter2 (fun z k m' => (0 ≤ k ∧ k ≤ 3) ∧ ((∀ b, b ≠ 6 → m' 241 b = m 241 b) ∧ (∀ x, x ≠ 241 → x ≠ 247 → m' x = m x)) ∧ ((z = 1 ∧ (0 ≤ v1 ∧ v1 ≤ 2) ∧ nmOk t n a 0 6 (k.toNat + 1) ∧ m' 241 6 = ps t n a (k.toNat + 1) - 1 ∧ ∀ i, m' 247 i = bgK t n a (m 247) k i) ∨ z = 0 ∧ ¬ okB t n a)) (fun _ k => (3 - k).toNat) ⟨by decide, ⟨c1.1, fun x x1 _ => c1.2 x x1⟩, ?_⟩ (by decide) ?_) ?_
  · by_cases hv : 0 ≤ v1 ∧ v1 ≤ 2
    · rw [if_pos hv]
      refine Or.inl ⟨rfl, hv, ?_, ?_, fun i => ?_⟩
      · intro j hj
        have : j = 0 := by simp at hj; omega
        subst this
        rw [e0, ← a1]
        exact ⟨fun h => absurd h (by decide), by omega, by omega⟩
      · show m1 241 6 = ps t n a 1 - 1
        rw [e1, b1]; omega
      · unfold bgK
        rw [if_neg (by omega), c1.2 247 (by decide)]
    · rw [if_neg hv]
      refine Or.inr ⟨rfl, fun q => hv ?_⟩
      rw [a1]
      have q1 := (q.1.1 0 (by decide)).2
      have q2 := q.1.2
      rw [e0] at q1 q2
      exact ⟨q1.1, q2⟩
  · rintro z k m' ⟨hk, hf, hz⟩
    unfold eBX11_readTheBag_12 ebX11_readTheBag_12
    simp only
    refine T_if (fun hc => T_out (by decide) ⟨hf, ?_⟩) (fun hc => T_if (fun hz0 => T_out (by decide) ⟨hf, Or.inr ⟨hz0, ?_⟩⟩) (fun hz0 => ?_))
    · rw [show k = 3 by omega] at hz
      exact hz
    · rcases hz with ⟨q, _⟩ | ⟨_, q⟩
      · omega
      · exact q
    · obtain ⟨hz1, hv, hok, hat, hbag⟩ := hz.resolve_right (fun q => hz0 q.1)
      have hpsk := ps_r (t := t) (n := n) (a := a) (k.toNat + 1)
      have tx : TxR m' t n (ps t n a (k.toNat + 1) - 1) := ⟨by rw [hf.2 245 (by decide) (by decide)]; exact h.1, by rw [hf.1 5 (by decide)]; exact h.2.1, h.2.2.1, hat, by omega, by omega⟩
      have bad : ∀ m'' : Mem, Rat m' m'' → ¬ okB t n a → T (ebX11_readTheBag_55 g v1 k 0 m'') (G (fun q => (fun (z k : Int) (m' : Mem) => (0 ≤ k ∧ k ≤ 3) ∧ ((∀ b, b ≠ 6 → m' 241 b = m 241 b) ∧ (∀ x, x ≠ 241 → x ≠ 247 → m' x = m x)) ∧ ((z = 1 ∧ (0 ≤ v1 ∧ v1 ≤ 2) ∧ nmOk t n a 0 6 (k.toNat + 1) ∧ m' 241 6 = ps t n a (k.toNat + 1) - 1 ∧ ∀ i, m' 247 i = bgK t n a (m 247) k i) ∨ z = 0 ∧ ¬ okB t n a)) q.1 q.2.1 q.2.2) (fun q => (fun (_ k : Int) => (3 - k).toNat) q.1 q.2.1) ((fun (_ k : Int) => (3 - k).toNat) z k) (fun q => ((∀ b, b ≠ 6 → q.2.2.2 241 b = m 241 b) ∧ (∀ x, x ≠ 241 → x ≠ 247 → q.2.2.2 x = m x)) ∧ ((q.2.1 = 1 ∧ (0 ≤ v1 ∧ v1 ≤ 2) ∧ nmOk t n a 0 6 4 ∧ q.2.2.2 241 6 = ps t n a 4 - 1 ∧ ∀ i, q.2.2.2 247 i = bgK t n a (m 247) 3 i) ∨ q.2.1 = 0 ∧ ¬ okB t n a))) := by
        intro m'' hr hno
        unfold ebX11_readTheBag_55 ebX11_readTheBag_56 ebX11_readTheBag_73
        rw [w32_id (by omega) (by omega)]
        exact T_it rfl (T_vv (T_go ⟨⟨by simp only; omega, by simp only; omega⟩, ⟨fun b hb => (hr.1 b hb).trans (hf.1 b hb), fun x x1 x2 => (hr.2 x x1).trans (hf.2 x x1 x2)⟩, Or.inr ⟨rfl, hno⟩⟩ (by simp only; omega)))
      have bad' : ∀ (m'' : Mem) (v : Int), ebX11_readTheBag_55 g v1 k v m'' = ebX11_readTheBag_55 g v1 k 0 m'' := fun m'' v => by
        unfold ebX11_readTheBag_55 ebX11_readTheBag_56
        rw [if_pos rfl, if_pos rfl]
      refine T_bd2 (rSign tx) ?_
      rintro v3 m3 ⟨a3, b3, c3⟩
      dsimp only at a3 b3 c3
      have r3 := sg_r t n (ps t n a (k.toNat + 1) - 1) 44
      refine T_bd2 (rNum (tx.c c3 b3 (by omega))) ?_
      rintro v4 m4 ⟨a4, b4, c4⟩
      dsimp only at a4 b4 c4
      have c34 := c3.tr c4
      refine T_if (fun z3 => ?_) (fun z3 => T_bd2 tX11_in ?_)
      · rw [bad']
        refine bad m4 c34 (fun q => ?_)
        have := (q.1.1 (k.toNat + 1) (by omega)).1 (by omega)
        omega
      · intro v5 m5 e
        cases e
        have w3 := (r3.resolve_left (fun q => z3 (a3.trans q)))
        rw [w3, show ps t n a (k.toNat + 1) - 1 + 1 = ps t n a (k.toNat + 1) by omega] at a4 b4
        by_cases h5 : 0 ≤ v4 ∧ v4 ≤ 6
        · rw [if_pos h5]
          refine T_ie (by decide) ?_
          unfold ebX11_readTheBag_56 ebX11_readTheBag_73
          rw [w32_id (x := 3 * v1) (by omega) (by omega), w32_id (x := 3 * v1 + k) (by omega) (by omega), w32_id (by omega) (by omega)]
          have es : (k + 1).toNat + 1 = k.toNat + 1 + 1 := by omega
          refine T_ie (by decide) (T_ck ⟨by omega, by omega⟩ (T_vm (T_vv (T_go ⟨⟨by simp only; omega, by simp only; omega⟩, ⟨fun b hb => ?_, fun x x1 x2 => ?_⟩, Or.inl ⟨rfl, hv, ?_, ?_, fun i => ?_⟩⟩ (by simp only; omega)))))
          · simp only; rw [ms_x (by decide), c34.1 b hb]; exact hf.1 b hb
          · simp only; rw [ms_f x2, c34.2 x x1]; exact hf.2 x x1 x2
          · simp only [es]
            exact nmOk_s.mpr ⟨hok, fun _ => w3, by rw [← a4]; exact h5⟩
          · simp only [es]
            rw [ms_x (by decide), b4, ps_s t n a (k.toNat + 1)]; omega
          · simp only
            by_cases q : i = 3 * v1 + k
            · rw [q, ms_at]
              unfold bgK
              rw [if_pos (by omega), a4, ← a1, show (3 * v1 + k - 3 * v1 + 1).toNat = k.toNat + 1 by omega]
            · rw [ms_y q, c34.2 247 (by decide), hbag i]
              unfold bgK
              rw [← a1]
              by_cases q2 : 3 * v1 ≤ i ∧ i < 3 * v1 + k
              · rw [if_pos q2, if_pos (by omega)]
              · rw [if_neg q2, if_neg (by omega)]
        · rw [if_neg h5]
          refine T_it rfl ?_
          rw [bad']
          refine bad m4 c34 (fun q => h5 ?_)
          have := (q.1.1 (k.toNat + 1) (by omega)).2
          rw [a4]; exact this
  · rintro c ⟨z, k, m'⟩ ⟨hf, hz⟩
    dsimp only at hf hz ⊢
    unfold ebX11_readTheBag_79 ebX11_readTheBag_96 ebX11_readTheBag_97
    rcases hz with ⟨e, hv, hok, hat, hbag⟩ | ⟨e, hno⟩
    · subst e
      have hps := ps_r (t := t) (n := n) (a := a) 4
      have tx : TxR m' t n (ps t n a 4 - 1) := ⟨by rw [hf.2 245 (by decide) (by decide)]; exact h.1, by rw [hf.1 5 (by decide)]; exact h.2.1, h.2.2.1, hat, by omega, by omega⟩
      refine T_ie (by decide) (T_bd2 (rSign tx) ?_)
      rintro v3 m3 ⟨a3, b3, c3⟩
      dsimp only at a3 b3 c3
      refine T_if (fun z3 => T_ck (by decide) (T_some ⟨fun b hb => (c3.1 b hb).trans (hf.1 b hb), fun x x1 x2 => (c3.2 x x1).trans (hf.2 x x1 x2), Or.inr ⟨rfl, fun q => ?_⟩⟩)) (fun z3 => T_ck (by decide) (T_some ⟨fun b hb => (c3.1 b hb).trans (hf.1 b hb), fun x x1 x2 => (c3.2 x x1).trans (hf.2 x x1 x2), Or.inl ⟨rfl, ⟨⟨hok, ?_⟩, ?_⟩, ?_, fun i i0 i1 => ?_⟩⟩))
      · have := q.2; omega
      · rw [e0, ← a1]; exact hv.2
      · exact (sg_r t n (ps t n a 4 - 1) 59).resolve_left (fun q => z3 (a3.trans q))
      · have := (sg_r t n (ps t n a 4 - 1) 59).resolve_left (fun q => z3 (a3.trans q))
        dsimp only; omega
      · dsimp only
        rw [c3.2 247 (by decide), hbag i]
        rfl
    · subst e
      exact T_it rfl (T_ck (by decide) (T_some ⟨hf.1, hf.2, Or.inr ⟨rfl, hno⟩⟩))
