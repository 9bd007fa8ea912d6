/-! ===== drawn ===== -/
theorem jdiv_n {a b : Int} (ha : 0 ≤ a) (hb : 0 < b) (h : a < 2147483648) : jdiv a b = a / b := by
  unfold jdiv
  rw [Int.tdiv_eq_ediv_of_nonneg ha]
  have h1 := Int.ediv_nonneg ha (Int.le_of_lt hb)
  have h2 := Int.ediv_le_self b ha
  exact w32_id (by omega) (by omega)
theorem jrem_n {a b : Int} (ha : 0 ≤ a) (hb : 0 < b) (h : a < 2147483648) : jrem a b = a % b := by
  unfold jrem
  rw [jdiv_n ha hb h]
  have h1 := Int.emod_add_mul_ediv a b
  have h2 := Int.emod_nonneg a (Int.ne_of_gt hb)
  have h3 : b * (a / b) = a / b * b := Int.mul_comm _ _
  have h4 : 0 ≤ a / b * b := Int.mul_nonneg (Int.ediv_nonneg ha (Int.le_of_lt hb)) (Int.le_of_lt hb)
  rw [w32_id (x := a / b * b) (by omega) (by omega), w32_id (by omega) (by omega)]
  omega
/-- whether an uncovered line goes over a cell -/
def opon (d : Dt) (R : Int → Int) (c : Int) (n : Nat) : Prop := ∃ i : Int, 0 ≤ i ∧ i < n ∧ R (10 + i) = -4 ∧ onB d i c = true
theorem op_drawn {g : Shp} {m : Mem} {x : Int} (h : Core m) : Two (eX10_drawn g x m) (eX11_drawn g x) (Done m) := by
  obtain ⟨ht, hp, hs, hpl, ⟨hr0, hw0⟩, hq⟩ := id h
  have hl := hp.1
  have rf := Done.rf h
  have e20 : m 241 20 = dl (dt m) := rfl
  have bad : ¬ (0 ≤ x ∧ x ≤ 419) → T (ebX10_drawn_11 g m) (fun q => T (eX11_drawn g x q.2) (fun p => q.1 = p.1 ∧ Done m p.2)) := by
    intro hx
    refine T2 ?_
    unfold eX11_drawn ebX11_drawn_0
    refine T_bd2 tX11_in ?_
    intro r m' q
    cases q
    rw [if_neg hx]
    exact T_it rfl (T_r rfl rf)
  unfold Two eX10_drawn ebX10_drawn_0
  refine T_if (fun hx => bad (by omega)) (fun hx => T_if (fun hx2 => ?_) (fun hx2 => bad (by omega)))
  rw [jrem_n (by omega) (by decide) (by omega), jdiv_n (by omega) (by decide) (by omega), w32_id (x := 20 * (x / 21)) (by omega) (by omega)]
  have hin : ∀ (P : Int × Mem → Prop), T (if x % 21 = 20 then some (47, m) else
      vv (20 * (x / 21) + x % 21) fun y6 =>
      ck ((0 : Int) ≤ (w32 (33 + y6)) ∧ (w32 (33 + y6)) < 433) <|
      vv (m 242 (w32 (33 + y6))) fun y9 =>
      if y9 = ((-4)) then
        bdl (iter (eBX11_drawn_73 g y6) 100000 (0, 0, m)) fun cv11 sv12 =>
        ebX11_drawn_119 g sv12.1 sv12.2.2
      else
        ck ((0 : Int) ≤ (w32 (10 + y9)) ∧ (w32 (10 + y9)) < 433) <|
        some (w32 (97 + (m 242 (w32 (10 + y9)))), m)) P → T (eX11_drawn g x m) P := by
    intro P hP
    unfold eX11_drawn ebX11_drawn_0
    refine T_bd2 tX11_in ?_
    intro r m' q
    cases q
    rw [if_pos (show 0 ≤ x ∧ x ≤ 419 by omega), jrem_n (by omega) (by decide) (by omega), jdiv_n (by omega) (by decide) (by omega), w32_id (x := 20 * (x / 21)) (by omega) (by omega), w32_id (x := 20 * (x / 21) + x % 21) (by omega) (by omega)]
    exact T_ie (by decide) hP
  refine T_vv (T_if (fun hc => T2 (hin _ (T_it hc (T_r rfl rf)))) (fun hc => T_vv ?_))
  rw [w32_id (by omega) (by omega)]
  generalize hcc : 20 * (x / 21) + x % 21 = c at hin
  have hc0 : 0 ≤ c ∧ c < 400 := by omega
  refine T_ck ⟨by omega, by omega⟩ (T_vv (T_bd2 (tX10_isLine hpl.2.1) ?_))
  intro r m' q
  cases q
  have eo : m 86 c = m 242 (33 + c) := by rw [← hr0 _ (by omega) (by omega), rowC_o hc0.1]; rfl
  rw [eo]
  rcases hw0.2.2.2.2.2.1 c hc0.1 hc0.2 with ho | ⟨ho1, ho2, ho3⟩
  · rw [ho, if_neg (show ¬ ((0 : Int) ≤ -4 ∧ -4 < dl (dt m)) by omega)]
    -- nobody's: is an uncovered line there
    refine T_it rfl (T_bdl (Q := fun q => q.2.2 = m ∧ (q.1 = 1 ∧ opon (dt m) (m 242) c (dl (dt m)).toNat ∨ q.1 = 2 ∧ ¬ opon (dt m) (m 242) c (dl (dt m)).toNat))
      (iter1 (fun k m' => m' = m ∧ 0 ≤ k ∧ k ≤ dl (dt m) ∧ ¬ opon (dt m) (m 242) c k.toNat) (fun k => (3 - k).toNat)
        ⟨rfl, by decide, by omega, by rintro ⟨i, a, b, _⟩; omega⟩ (by decide) ?_) ?_)
    · rintro k m' ⟨rfl, h1, h2, h3⟩
      unfold eBX10_drawn_74 ebX10_drawn_74
      simp only
      rw [hpl.2.1]
      refine T_if (fun hk => T_out (by decide) ⟨rfl, Or.inr ⟨rfl, ?_⟩⟩) (fun hk => T_bd2 (tX1_isCovered ⟨by omega, by omega⟩) ?_)
      · rw [show dl (dt m') = k by omega]; exact h3
      · intro r m2 q
        cases q
        rw [hr0 _ (by omega) (by omega)]
        have nx : ¬ (m' 242 (10 + k) = -4 ∧ onB (dt m') k c = true) → ¬ opon (dt m') (m' 242) c (k + 1).toNat := by
          rintro hn ⟨i, a, b, e, f⟩
          by_cases q : i = k
          · subst q; exact hn ⟨e, f⟩
          · exact h3 ⟨i, a, by omega, e, f⟩
        unfold ebX10_drawn_114
        simp (disch := omega) only [w32_id]
        refine T_if (fun hz => ?_) (fun hz => ?_)
        · have hop : m' 242 (10 + k) = -4 := by
            by_cases q : m' 242 (10 + k) = -4
            · exact q
            · rw [if_neg q] at hz; exact absurd hz (by decide)
          have hov := (over_onB hl hpl hc0).2 k h1 (by omega)
          have hg : T (eX7_goesOver g (m' 1 6) k c m') (fun q => q = (b01 (onB (dt m') k c), m')) := by
            unfold eX7_goesOver ebX7_goesOver_0
            refine T_ck ⟨by omega, by omega⟩ (T_if (fun hb => ?_) (fun hb => ?_))
            · rw [hov.mp hb]; exact ⟨(0, m'), rfl, rfl⟩
            · have : onB (dt m') k c = true := by
                by_cases q : onB (dt m') k c = true
                · exact q
                · exact absurd (hov.mpr (by simpa using q)) hb
              rw [this]; exact ⟨(1, m'), rfl, rfl⟩
          refine T_bd2 hg ?_
          intro r m2 q
          cases q
          by_cases hb : onB (dt m') k c = true
          · rw [hb]
            exact T_ie (by decide) (T_out (by decide) ⟨rfl, Or.inl ⟨rfl, ⟨k, h1, by omega, hop, hb⟩⟩⟩)
          · have hb2 : onB (dt m') k c = false := by simpa using hb
            rw [hb2]
            exact T_it rfl (T_vv (T_go ⟨rfl, by simp only; omega, by simp only; omega, nx (fun q => hb q.2)⟩ (by simp only; omega)))
        · exact T_vv (T_go ⟨rfl, by simp only; omega, by simp only; omega, nx (fun q => by rw [if_pos q.1] at hz; exact hz rfl)⟩ (by simp only; omega))
    · rintro cv ⟨k, m'⟩ ⟨h1, h2⟩
      simp only at h1 h2
      subst h1
      -- the reference's loop
      have hR : T (iter (eBX11_drawn_73 g c) 100000 (0, 0, m')) (fun q => q.2.2.2 = m' ∧ (q.2.1 = 1 ∧ opon (dt m') (m' 242) c (dl (dt m')).toNat ∨ q.2.1 = 0 ∧ ¬ opon (dt m') (m' 242) c (dl (dt m')).toNat)) := by
        refine iter2 (fun z k m2 => m2 = m' ∧ 0 ≤ k ∧ k ≤ dl (dt m') ∧ (z = 1 ∧ opon (dt m') (m' 242) c k.toNat ∨ z = 0 ∧ ¬ opon (dt m') (m' 242) c k.toNat)) (fun _ k => (3 - k).toNat)
          ⟨rfl, by decide, by omega, Or.inr ⟨rfl, by rintro ⟨i, a, b, _⟩; omega⟩⟩ (by decide) ?_
        rintro z j m2 ⟨rfl, k1, k2, k3⟩
        unfold eBX11_drawn_73 ebX11_drawn_73
        simp only
        rw [e20]
        have up : opon (dt m2) (m2 242) c j.toNat → opon (dt m2) (m2 242) c (j + 1).toNat := by
          rintro ⟨i, a, b, e⟩
          exact ⟨i, a, by omega, e⟩
        have nx : ¬ opon (dt m2) (m2 242) c j.toNat → ¬ (m2 242 (10 + j) = -4 ∧ onB (dt m2) j c = true) → ¬ opon (dt m2) (m2 242) c (j + 1).toNat := by
          rintro h3 hn ⟨i, a, b, e, f⟩
          by_cases q : i = j
          · subst q; exact hn ⟨e, f⟩
          · exact h3 ⟨i, a, by omega, e, f⟩
        unfold ebX11_drawn_110 ebX11_drawn_106 ebX11_drawn_111
        refine T_if (fun hk => T_out (by decide) ⟨rfl, ?_⟩) (fun hk => ?_)
        · simp only
          rw [show dl (dt m2) = j by omega]; exact k3
        · simp (disch := omega) only [w32_id]
          refine T_if (fun hz => ?_) (fun hz => ?_)
          · have hno := (k3.resolve_left (by omega)).2
            refine T_bd2 (tX11_isCovered ⟨by omega, by omega⟩) ?_
            intro r m3 q
            cases q
            by_cases hop : m2 242 (10 + j) = -4
            · rw [if_pos hop]
              refine T_it rfl (T_bd2 (tX11_isOn hp ⟨by omega, by omega⟩) ?_)
              intro r m3 q
              cases q
              by_cases hb : onB (dt m2) j c = true
              · rw [hb]
                exact T_ie (by decide) (T_vv (T_go ⟨rfl, by simp only; omega, by simp only; omega, Or.inl ⟨rfl, ⟨j, k1, by simp only; omega, hop, hb⟩⟩⟩ (by simp only; omega)))
              · have hb2 : onB (dt m2) j c = false := by simpa using hb
                rw [hb2]
                exact T_it rfl (T_vv (T_go ⟨rfl, by simp only; omega, by simp only; omega, Or.inr ⟨rfl, nx hno (fun q => hb q.2)⟩⟩ (by simp only; omega)))
            · rw [if_neg hop]
              exact T_ie (by decide) (T_vv (T_go ⟨rfl, by simp only; omega, by simp only; omega, Or.inr ⟨rfl, nx hno (fun q => hop q.1)⟩⟩ (by simp only; omega)))
          · have hyes := (k3.resolve_right (fun q => hz q.1)).2
            exact T_vv (T_go ⟨rfl, by simp only; omega, by simp only; omega, Or.inl ⟨rfl, up hyes⟩⟩ (by simp only; omega))
      have fin : ∀ v : Int, (v = 43 ∧ opon (dt m') (m' 242) c (dl (dt m')).toNat ∨ v = 46 ∧ ¬ opon (dt m') (m' 242) c (dl (dt m')).toNat) → T (eX11_drawn g x m') (fun p => v = p.1 ∧ Done m' p.2) := by
        intro v hv
        refine hin _ ?_
        refine T_ie hc (T_vv ?_)
        rw [w32_id (by omega) (by omega)]
        refine T_ck ⟨by omega, by omega⟩ (T_vv (T_it ho (T_bdl hR ?_)))
        rintro r ⟨z, j, m2⟩ ⟨k1, k2⟩
        simp only at k1 k2
        subst k1
        unfold ebX11_drawn_119 ebX11_drawn_131
        dsimp only
        refine T_if (fun hz => T_r ?_ rf) (fun hz => T_r ?_ rf)
        · rcases hv with hv | hv
          · exact absurd hv.2 (k2.resolve_left (by omega)).2
          · exact hv.1
        · rcases hv with hv | hv
          · exact hv.1
          · exact absurd (k2.resolve_right (fun q => hz q.1)).2 hv.2
      dsimp only
      rcases h2 with ⟨rfl, h2⟩ | ⟨rfl, h2⟩
      · exact T_it rfl (T2 (fin 43 (Or.inl ⟨rfl, h2⟩)))
      · exact T_ie (by decide) (T2 (fin 46 (Or.inr ⟨rfl, h2⟩)))
  · rw [if_pos ho1]
    refine T_ie (by decide) (T_ck ⟨by omega, by omega⟩ (T2 (hin _ ?_)))
    refine T_ie hc (T_vv ?_)
    rw [w32_id (x := 33 + c) (by omega) (by omega)]
    refine T_ck ⟨by omega, by omega⟩ (T_vv (T_ie (by omega) ?_))
    rw [w32_id (x := 10 + m 242 (33 + c)) (by omega) (by omega)]
    refine T_ck ⟨by omega, by omega⟩ (T_r ?_ rf)
    have : m 88 (m 242 (33 + c)) = m 242 (10 + m 242 (33 + c)) := by rw [← hr0 (10 + m 242 (33 + c)) (by omega) (by omega), rowC_c' (by omega)]; rfl
    rw [this]
