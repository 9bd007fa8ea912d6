theorem T2 {r : Int} {m' : Mem} {b : Mem → Option (Int × Mem)} {P : Mem → Prop} (h : T (b m') (fun p => r = p.1 ∧ P p.2)) : T (some (r, m')) (fun q => T (b q.2) (fun p => q.1 = p.1 ∧ P p.2)) := T_some h
theorem T_r {r r2 : Int} {m2 : Mem} {P : Mem → Prop} (h : r = r2) (h2 : P m2) : T (some (r2, m2)) (fun p => r = p.1 ∧ P p.2) := T_some ⟨h, h2⟩
/-! ===== a change: the program keeps the floor, the reference notes its row, then both change it ===== -/
def BC (m m' : Mem) : Prop := PastOk m' ∧ (∃ s, (s = 0 ∧ m 93 1 < 6 ∨ s = 1 ∧ m 93 1 = 6) ∧ m' 93 1 = m 93 1 + 1 - s ∧ (∀ i, 0 ≤ i → i < m 93 1 - s → rowC m' (m' 94 i) = rowC m (m 94 (i + s))) ∧ RowEq (rowC m' (m' 94 (m 93 1 - s))) (rowC m 85))
      ∧ ((∀ w, 0 ≤ w → w < 9 → m' (205 + 4 * w) 8 = 0) ∧ m' 143 8 = 0) ∧ (∀ a b, (b ≠ 8 ∨ a % 4 ≠ 1 ∧ a ≠ 143) → (a < 93 ∨ 142 < a) → m' a b = m a b) ∧ ∀ a, a ≠ 143 → (a < 93 ∨ 142 < a) → (a < 205 ∨ 237 < a) → m' a = m a
def NT (m m' : Mem) : Prop := (∃ s, (s = 0 ∧ m 241 3 < 6 ∨ s = 1 ∧ m 241 3 = 6) ∧ m' 241 3 = m 241 3 + 1 - s ∧ (∀ i k, 0 ≤ i → i < m 241 3 - s → 0 ≤ k → k < 433 → m' 244 (433 * i + k) = m 244 (433 * (i + s) + k)) ∧ (∀ k, 0 ≤ k → k < 433 → m' 244 (433 * (m 241 3 - s) + k) = m 242 k))
      ∧ (∀ b, b ≠ 3 → m' 241 b = m 241 b) ∧ ∀ a, a ≠ 241 → a ≠ 244 → m' a = m a
theorem tBC {g : Shp} {m : Mem} (h : PastOk m) : T (eX10_beginChange g m) (fun q => BC m q.2) := tX10_beginChange h
theorem tNT {g : Shp} {m : Mem} (hg1 : gl g 242 = 433) (hg2 : gl g 244 = 2598) (h : 0 ≤ m 241 3 ∧ m 241 3 ≤ 6) : T (eX11_note g m) (fun q => NT m q.2) := tX11_note hg1 hg2 h
theorem Done.ch {m m1 m2 m3 m4 : Mem} (h : Core m) (hb : BC m m1) (h2 : ∀ a, (a < 85 ∨ 92 < a) → m2 a = m1 a) (hn : NT m2 m3)
    (h4 : ∀ a, a ≠ 241 → a ≠ 242 → a ≠ 243 → (a < 257 ∨ 267 < a) → m4 a = m3 a) (h40 : m4 241 3 = m3 241 3 ∧ m4 241 5 = m3 241 5 ∧ m4 241 20 = m3 241 20)
    (hr : RowEq (rowC m2 85) (m4 242)) (hw : WRow (dt m) (m4 242)) : Done m m4 := by
  obtain ⟨ht, hp, hs, hpl, ⟨hr0, hw0⟩, ⟨q1, q2, q3⟩⟩ := h
  obtain ⟨b1, ⟨s, hs1, b2, b3, b4⟩, ⟨b5, b6⟩, b7, b8⟩ := hb
  obtain ⟨⟨s', hs2, n2, n3, n4⟩, n5, n6⟩ := hn
  -- cells of the program, of the reference
  have eC : ∀ a, a < 241 → m4 a = m2 a := fun a ha => by rw [h4 a (by omega) (by omega) (by omega) (by omega), n6 a (by omega) (by omega)]
  have eX : ∀ a, 267 < a → m4 a = m2 a := fun a ha => by rw [h4 a (by omega) (by omega) (by omega) (by omega), n6 a (by omega) (by omega)]
  have eR : ∀ a, a ≠ 244 → 242 < a → a ≠ 243 → a < 257 → m4 a = m a := fun a h44 ha h43 hb => by
    rw [h4 a (by omega) (by omega) h43 (by omega), n6 a (by omega) h44, h2 a (by omega), b8 a (by omega) (by omega) (by omega)]
  have e241 : m2 241 = m 241 := by rw [h2 241 (by omega), b8 241 (by decide) (by decide) (by decide)]
  have e20 : m4 241 20 = m 241 20 := by rw [h40.2.2, n5 20 (by decide), e241]
  have hd : dt m4 = dt m := dt_c e20 (fun a x y => eR a (by omega) (by omega) (by omega) (by omega))
  have hss : s' = s := by rw [e241] at hs2; omega
  subst hss
  have e93 : m4 93 = m1 93 := by rw [eC 93 (by decide), h2 93 (by decide)]
  have e94 : m4 94 = m1 94 := by rw [eC 94 (by decide), h2 94 (by decide)]
  have e1 : m4 1 = m 1 := by rw [eC 1 (by decide), h2 1 (by decide), b8 1 (by decide) (by decide) (by decide)]
  have hP : 177 ≤ m 1 6 ∧ m 1 6 ≤ 191 := by rcases hs with hs | hs <;> omega
  have hl := hp.1.2
  have prow : ∀ i, 0 ≤ i → i < 6 → rowC m4 (m1 94 i) = rowC m1 (m1 94 i) := fun i x y => by
    have := b1.rg x y
    exact rowC_c (fun a u v => by rw [eC a (by omega), h2 a (by omega)])
  have q0 := q1.1
  refine ⟨⟨ht.c ?_ ?_ ?_ ?_, by rw [hd]; exact hp, by unfold ISw; rw [e1]; exact hs, ?_, ⟨?_, ?_⟩, ⟨b1.c (by rw [e93]) e94, ?_, fun i x y => ?_⟩⟩, hd, fun a ha => ?_, Or.inr ⟨fun w x y => ?_, ?_⟩⟩
  · rw [h40.2.1, n5 5 (by decide), e241]
  · rw [eC 2 (by decide), h2 2 (by decide), b8 2 (by decide) (by decide) (by decide)]
  · rw [eC 3 (by decide), h2 3 (by decide), b8 3 (by decide) (by decide) (by decide)]
  · exact eR 245 (by decide) (by decide) (by decide) (by decide)
  · rw [e1, hd]
    exact hpl.c hl (fun a x y => by rw [eC a (by omega), h2 a (by omega), b8 a (by omega) (by omega) (by omega)])
  · rw [rowC_c (m := m2) (fun a x y => eC a (by omega))]
    exact hr
  · rw [hd]; exact hw
  · rw [h40.1, n2, e93, b2, e241, q2]
  · rw [e93, b2] at y
    rw [e94, prow i x (by omega), hd]
    have e44 : m4 244 = m3 244 := h4 244 (by decide) (by decide) (by decide) (by decide)
    have e44' : m2 244 = m 244 := by rw [h2 244 (by omega), b8 244 (by decide) (by decide) (by decide)]
    have e42' : m2 242 = m 242 := by rw [h2 242 (by omega), b8 242 (by decide) (by decide) (by decide)]
    rw [e241] at n3 n4
    rw [e44'] at n3
    rw [e42'] at n4
    by_cases c : i < m 93 1 - s'
    · have k1 := b3 i x c
      have k2 := q3 (i + s') (by omega) (by omega)
      have k3 : RowEq (pastR m4 i) (pastR m (i + s')) := fun k u v => by
        unfold pastR
        rw [e44, n3 i k x (by omega) u v]
      rw [k1]
      exact ⟨k2.1.tr k3.sy, k2.2.c hl k3⟩
    · have hi : i = m 93 1 - s' := by omega
      have k3 : RowEq (pastR m4 i) (m 242) := fun k u v => by
        unfold pastR
        rw [e44, hi, ← q2, n4 k u v]
      refine ⟨?_, hw0.c hl k3⟩
      rw [hi]
      exact (b4.tr hr0).tr (by rw [← hi]; exact k3.sy)
  · rw [eC a (by omega), h2 a (by omega), b8 a (by omega) (by omega) (by omega)]
  · rw [eC _ (by omega), h2 _ (by omega)]; exact b5 w x y
  · rw [eC _ (by omega), h2 _ (by omega)]; exact b6
/-! ===== the places of a row ===== -/
theorem rowC_0 (m : Mem) (f : Int) : rowC m f 0 = m f 7 := by unfold rowC; rw [if_pos (by decide)]
theorem rowC_b {m : Mem} {f k : Int} (h : 0 ≤ k ∧ k < 9) : rowC m f (1 + k) = m (f + 2) k := by unfold rowC; rw [if_neg (by omega), if_pos (by omega)]; congr 1; omega
theorem rowC_c' {m : Mem} {f k : Int} (h : 0 ≤ k ∧ k < 3) : rowC m f (10 + k) = m (f + 3) k := by unfold rowC; rw [if_neg (by omega), if_neg (by omega), if_pos (by omega)]; congr 1; omega
theorem rowC_s {m : Mem} {f k : Int} (h : 0 ≤ k ∧ k < 3) : rowC m f (13 + k) = m (f + 4) k := by unfold rowC; rw [if_neg (by omega), if_neg (by omega), if_neg (by omega), if_pos (by omega)]; congr 1; omega
theorem rowC_k {m : Mem} {f k : Int} (h : 0 ≤ k ∧ k < 3) : rowC m f (16 + k) = m (f + 5) k := by unfold rowC; rw [if_neg (by omega), if_neg (by omega), if_neg (by omega), if_neg (by omega), if_pos (by omega)]; congr 1; omega
theorem rowC_u {m : Mem} {f k : Int} (h : 0 ≤ k ∧ k < 9) : rowC m f (19 + k) = m (f + 6) k := by unfold rowC; rw [if_neg (by omega), if_neg (by omega), if_neg (by omega), if_neg (by omega), if_neg (by omega), if_pos (by omega)]; congr 1; omega
theorem rowC_p {m : Mem} {f k : Int} (h : 0 ≤ k ∧ k < 3) : rowC m f (28 + k) = m (f + 7) k := by unfold rowC; rw [if_neg (by omega), if_neg (by omega), if_neg (by omega), if_neg (by omega), if_neg (by omega), if_neg (by omega), if_pos (by omega)]; congr 1; omega
theorem rowC_31 (m : Mem) (f : Int) : rowC m f 31 = m f 8 := by unfold rowC; simp
theorem rowC_32 (m : Mem) (f : Int) : rowC m f 32 = m f 9 := by unfold rowC; simp
theorem rowC_o {m : Mem} {f k : Int} (h : 0 ≤ k) : rowC m f (33 + k) = m (f + 1) k := by unfold rowC; rw [if_neg (by omega), if_neg (by omega), if_neg (by omega), if_neg (by omega), if_neg (by omega), if_neg (by omega), if_neg (by omega), if_neg (by omega), if_neg (by omega)]; congr 1; omega
/-! ===== joint, undo, bag, fill, cell, whose ===== -/
theorem op_joint {g : Shp} {m : Mem} {x : Int} (hg1 : gl g 242 = 433) (hg2 : gl g 244 = 2598) (h : Core m) : Two (eX10_joint g x m) (eX11_joint g x) (Done m) := by
  obtain ⟨ht, hp, hs, hpl, ⟨hr0, hw0⟩, ⟨q1, q2, q3⟩⟩ := id h
  have e0 : m 85 7 = m 242 0 := by rw [← rowC_0 m 85]; exact hr0 0 (by decide) (by decide)
  have bad : ¬ (0 ≤ x ∧ x ≤ 2) → T (ebX10_joint_9 g m) (fun q => T (eX11_joint g x q.2) (fun p => q.1 = p.1 ∧ Done m p.2)) := by
    intro hx
    refine T2 ?_
    unfold eX11_joint ebX11_joint_0
    refine T_bd2 tX11_in ?_
    intro r m' q
    cases q
    rw [if_neg hx]
    exact T_it rfl (T_r rfl (Done.rf h))
  unfold Two eX10_joint ebX10_joint_0
  refine T_if (fun hx => bad (by omega)) (fun hx => T_if (fun hx2 => T_if (fun hj => ?_) (fun hj => ?_)) (fun hx2 => bad (by omega)))
  · refine T2 ?_
    unfold eX11_joint ebX11_joint_0
    refine T_bd2 tX11_in ?_
    intro r m' q
    cases q
    rw [if_pos (show 0 ≤ x ∧ x ≤ 2 by omega)]
    exact T_ie (by decide) (T_ck (by decide) (T_it (by omega) (T_r rfl (Done.rf h))))
  · refine T_bd2 (tBC q1) ?_
    intro r m1 hb
    simp only at hb
    refine T_vv (T_vm (T2 ?_))
    unfold eX11_joint ebX11_joint_0
    refine T_bd2 tX11_in ?_
    intro r m' q
    cases q
    rw [if_pos (show 0 ≤ x ∧ x ≤ 2 by omega)]
    have b8 := hb.2.2.2.2
    have e2 : ∀ a, a ≠ 85 → ms m1 85 7 x a = m1 a := fun a ha => ms_f ha
    have e42 : ms m1 85 7 x 242 = m 242 := by rw [e2 242 (by decide), b8 242 (by decide) (by decide) (by decide)]
    have e41 : ms m1 85 7 x 241 = m 241 := by rw [e2 241 (by decide), b8 241 (by decide) (by decide) (by decide)]
    have e85 : m1 85 = m 85 := b8 85 (by decide) (by decide) (by decide)
    rw [e42]
    have q0 := q1.1
    refine T_ie (by decide) (T_ck (by decide) (T_ie (by omega) (T_bd2 (tNT hg1 hg2 (by rw [e41]; omega)) ?_)))
    intro r2 m3 hn
    simp only at hn
    have e3 : m3 242 = m 242 := by rw [hn.2.2 242 (by decide) (by decide), e42]
    refine T_ck (by decide) (T_vv (T_ck (by decide) (T_vm (T_r ?_ ?_))))
    · rw [e3, e85, e0]
    · refine Done.ch h hb (m2 := ms m1 85 7 x) (fun a ha => e2 a (by omega)) hn (fun a a1 a2 a3 a4 => ms_f a2) ⟨ms_x (by decide), ms_x (by decide), ms_x (by decide)⟩ (fun k a b => ?_) ?_
      · by_cases c : k = 0
        · rw [c, rowC_0, ms_at, ms_at]
        · rw [ms_y c, e3, ← hr0 k a b]
          unfold rowC
          simp (disch := omega) only [if_neg (show ¬ k < 1 by omega), ms_x, ms_y, b8]
      · obtain ⟨w1, w2, w3, w4, w5, w6, w7⟩ := hw0
        have e : ∀ k, k ≠ 0 → ms m3 242 0 x 242 k = m 242 k := fun k hk => by rw [ms_y hk, e3]
        refine ⟨by rw [ms_at]; omega, fun k a b => by rw [e k (by omega)]; exact w2 k a b, fun i a b => by rw [e _ (by omega)]; exact w3 i a b, fun i a b c => ?_, fun i s a b c d => by rw [e _ (by omega)]; exact w5 i s a b c d, fun c a b => ?_, by rw [e 32 (by decide)]; exact w7⟩
        · rw [e _ (by omega)] at c ⊢
          exact ⟨(w4 i a b c).1, fun s u v => by rw [e _ (by omega)]; exact (w4 i a b c).2 s u v⟩
        · rw [e _ (by omega)]
          rcases w6 c a b with u | u
          · exact Or.inl u
          · exact Or.inr (by rw [e _ (by omega)]; exact u)
