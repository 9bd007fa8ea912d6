/-! ===== the finder's lists as they are kept ===== -/
def LyOk (m : Mem) : Prop := ∀ k bent : Nat, 1 ≤ k → k ≤ 12 → bent ≤ 1 → m (lyA k bent) 3 = 0 ∨ LC m (lyA k bent) (lay4 (m 11 0).toNat (m 11 1).toNat (m 11 2).toNat (m 5 5).toNat k bent)
theorem LyOk.c {m m' : Mem} (h : LyOk m) (h5 : m' 5 5 = m 5 5) (hm : ∀ a, (a = 11 ∨ 13 ≤ a ∧ a ≤ 84) → m' a = m a) : LyOk m' := by
  intro k bent k1 k2 hb
  have hr := lyA_r (k := k) (b := bent) (by omega) (by omega)
  rw [h5, hm 11 (Or.inl rfl), hm _ (Or.inr (by omega))]
  rcases h k bent k1 k2 hb with q | q
  · exact Or.inl q
  · exact Or.inr (q.c (fun a a1 a2 => hm a (Or.inr (by omega))))
theorem tX0_keepSizes {g : Shp} {m : Mem} {x J : Int} (hx : 84 < x) (hgx : gl g x = 3) (h : LyOk m) : T (eX0_keepSizes g x J m) (fun r => LyOk r.2 ∧ (∀ s, 0 ≤ s → s < 3 → r.2 11 s = m x s) ∧ r.2 5 5 = J ∧ (∀ b, b ≠ 5 → r.2 5 b = m 5 b) ∧ ∀ a, a ≠ 5 → a ≠ 11 → (a < 13 ∨ 84 < a) → r.2 a = m a) := by
  have main : ∀ z0 : Int, (z0 = 1 ∧ m 5 5 = J ∨ z0 = 0 ∧ m 5 5 ≠ J) → T (ebX0_keepSizes_13 g x J z0 m) (fun r => LyOk r.2 ∧ (∀ s, 0 ≤ s → s < 3 → r.2 11 s = m x s) ∧ r.2 5 5 = J ∧ (∀ b, b ≠ 5 → r.2 5 b = m 5 b) ∧ ∀ a, a ≠ 5 → a ≠ 11 → (a < 13 ∨ 84 < a) → r.2 a = m a) := by
    intro z0 hz
    unfold ebX0_keepSizes_13
    refine T_bdl (Q := fun r => r.2.2.2 = m ∧ (r.2.1 = 0 ∨ m 5 5 = J ∧ ∀ s, 0 ≤ s → s < 3 → m 11 s = m x s))
      (iter2 (fun v k m' => (0 ≤ k ∧ k ≤ 3) ∧ m' = m ∧ (v = 0 ∨ v = 1 ∧ m 5 5 = J ∧ ∀ s, 0 ≤ s → s < k → m 11 s = m x s)) (fun _ k => (3 - k).toNat) ⟨by decide, rfl, by rcases hz with ⟨q, q2⟩ | ⟨q, _⟩; exact Or.inr ⟨q, q2, fun s a b => by omega⟩; exact Or.inl q⟩ (by decide) ?_) ?_
    · rintro v k m' ⟨k1, rfl, hv⟩
      unfold eBX0_keepSizes_17 ebX0_keepSizes_17 ebX0_keepSizes_45 ebX0_keepSizes_46
      simp only
      rw [w32_id (by omega) (by omega)]
      refine T_if (fun c => T_out (by decide) ⟨rfl, ?_⟩) (fun c => T_if (fun c2 => T_vv (T_go ⟨⟨by simp only; omega, by simp only; omega⟩, rfl, Or.inl rfl⟩ (by simp only; omega))) (fun c2 => T_ck ⟨by omega, by omega⟩ (T_ck ⟨by omega, by omega⟩ (T_if (fun c3 => T_vv (T_go ⟨⟨by simp only; omega, by simp only; omega⟩, rfl, Or.inr ⟨rfl, ?_, fun s a b => ?_⟩⟩ (by simp only; omega))) (fun c3 => T_vv (T_go ⟨⟨by simp only; omega, by simp only; omega⟩, rfl, Or.inl rfl⟩ (by simp only; omega)))))))
      · rcases hv with q | ⟨_, q1, q2⟩
        · exact Or.inl q
        · exact Or.inr ⟨q1, fun s a b => q2 s a (by omega)⟩
      · exact (hv.resolve_left c2).2.1
      · simp only at b
        by_cases es : s = k
        · rw [es]; exact c3
        · exact (hv.resolve_left c2).2.2 s a (by omega)
    · rintro c ⟨v, k, m'⟩ ⟨e, hv⟩
      dsimp only at e hv ⊢
      subst e
      unfold ebX0_keepSizes_53
      refine T_if (fun c1 => T_ck (by rw [hgx]; decide) (T_vm' (fun m1 e1 => T_vm' (fun m2 e2 => ?_)))) (fun c1 => ?_)
      · have f2 : ∀ a, a ≠ 5 → a ≠ 11 → m2 a = m' a := fun a a1 a2 => by rw [e2, ms_f a1, e1, mcp_f a2]
        have e211 : ∀ s, 0 ≤ s → s < 3 → m2 11 s = m' x s := fun s a b => by rw [e2, ms_x (by decide), e1, mcp_in (by omega) (by omega)]; congr 1; omega
        have e25 : ∀ b, b ≠ 5 → m2 5 b = m' 5 b := fun b hb => by rw [e2, ms_y hb, e1, mcp_x (by decide)]
        refine T_bdl (Q := fun r => (∀ i, 0 ≤ i → i < 24 → r.2.2 (13 + 3 * i) 3 = 0) ∧ ∀ a, (a < 13 ∨ 84 < a) → r.2.2 a = m2 a)
          (iter1 (fun k m3 => (0 ≤ k ∧ k ≤ 24) ∧ (∀ i, 0 ≤ i → i < k → m3 (13 + 3 * i) 3 = 0) ∧ ∀ a, (a < 13 ∨ 84 < a) → m3 a = m2 a) (fun k => (24 - k).toNat) ⟨by decide, fun i a b => by omega, fun _ _ => rfl⟩ (by decide) ?_) ?_
        · rintro k m3 ⟨k1, k2, k3⟩
          unfold eBX0_keepSizes_77 ebX0_keepSizes_77
          simp only
          rw [w32_id (by omega) (by omega)]
          refine T_if (fun c => T_out (by decide) ⟨fun i a b => k2 i a (by omega), k3⟩) (fun c => T_ck ⟨by omega, by omega⟩ (T_vm (T_vv (T_go ⟨⟨by simp only; omega, by simp only; omega⟩, fun i a b => ?_, fun a ha => ?_⟩ (by simp only; omega)))))
          · simp only at b ⊢
            by_cases ei : i = k
            · rw [ei, show 9 + (4 + 3 * k) = 13 + 3 * k by omega, ms_at]
            · rw [ms_x (by omega)]; exact k2 i a (by omega)
          · simp only
            rw [ms_f (by omega)]; exact k3 a ha
        · rintro c ⟨k, m3⟩ ⟨q1, q2⟩
          dsimp only at q1 q2
          refine T_some ⟨fun k bent k1 k2 hb => Or.inl ?_, fun s a b => ?_, ?_, fun b hb => ?_, fun a a1 a2 a3 => ?_⟩
          · unfold lyA
            exact q1 _ (by omega) (by omega)
          · dsimp only; rw [q2 11 (by decide)]; exact e211 s a b
          · dsimp only; rw [q2 5 (by decide), e2, ms_at]
          · dsimp only; rw [q2 5 (by decide)]; exact e25 b hb
          · dsimp only; rw [q2 a a3]; exact f2 a a1 a2
      · obtain ⟨q1, q2⟩ := hv.resolve_left c1
        exact T_some ⟨h, q2, q1, fun _ _ => rfl, fun _ _ _ _ => rfl⟩
  unfold eX0_keepSizes ebX0_keepSizes_0
  exact T_if (fun c => main 1 (Or.inl ⟨rfl, c⟩)) (fun c => main 0 (Or.inr ⟨rfl, c⟩))
/-- all lists that a line's pieces want are made -/
theorem tX0_lists {g : Shp} {m : Mem} {q : Pc} {e : En} {x3 x4 x5 : Int} (he : Eok e) (hq : Wq q) (h60 : q.1 ≤ 60) (hg11 : gl g 11 = 3) (hgk : ∀ i, 0 ≤ i → i < 24 → gk g (13 + 3 * i) = 3) (hp : PcC m q) (h : LyOk m) (hs : ∀ s, 0 ≤ s → s < 3 → m 11 s = ez e s) (hj : m 5 5 = ej e) :
    T (iter (eBX0_find_42 x3 x4 x5 g) 100000 (0, m)) (fun r => LyOk r.2.2 ∧ Lys r.2.2 q e ∧ ∀ a, (a < 13 ∨ 84 < a) → r.2.2 a = m a) := by
  have e0 := hs 0 (by decide) (by decide)
  have e1 := hs 1 (by decide) (by decide)
  have e2 := hs 2 (by decide) (by decide)
  have hE := he.1
  have hJ := he.2
  have kn : ∀ (m' : Mem) (k bent : Nat), LyOk m' → m' 11 = m 11 → m' 5 = m 5 → 1 ≤ k → k ≤ 12 → bent ≤ 1 → m' (lyA k bent) 3 ≠ 0 → LC m' (lyA k bent) (lay4 (ez e 0).toNat (ez e 1).toNat (ez e 2).toNat (ej e).toNat k bent) := by
    intro m' k bent hl h11 h5 k1 k2 hb hk
    have := (hl k bent k1 k2 hb).resolve_left hk
    rw [h11, h5, e0, e1, e2, hj] at this
    exact this
  have mono : ∀ (p' : Int) (k' : Nat), 0 ≤ p' → p' < q.1 → 1 ≤ k' → (k' : Int) ≤ q.2.1 p' → 13 ≤ lyA k' (q.2.2.1 p') ∧ lyA k' (q.2.2.1 p') + 2 ≤ 84 := fun p' k' a b c d => lyA_r (by have := (hq.2.1 p' a b).2; omega) (hq.2.2.1 p' a b)
  refine T_mono (iter1 (Q := fun r => LyOk r.2.2 ∧ (∀ a, (a < 13 ∨ 84 < a) → r.2.2 a = m a) ∧ ∀ (p' : Int) (k' : Nat), 0 ≤ p' → p' < q.1 → 1 ≤ k' → (k' : Int) ≤ q.2.1 p' → r.2.2 (lyA k' (q.2.2.1 p')) 3 ≠ 0)
    (fun p m' => (0 ≤ p ∧ p ≤ q.1) ∧ LyOk m' ∧ (∀ a, (a < 13 ∨ 84 < a) → m' a = m a) ∧ ∀ (p' : Int) (k' : Nat), 0 ≤ p' → p' < p → 1 ≤ k' → (k' : Int) ≤ q.2.1 p' → m' (lyA k' (q.2.2.1 p')) 3 ≠ 0) (fun p => (q.1 - p).toNat)
    ⟨⟨by decide, hq.1⟩, h, fun _ _ => rfl, fun p' k' a b => by omega⟩ (by omega) ?_) ?_
  · rintro p m' ⟨p1, l1, l2, l3⟩
    unfold eBX0_find_42 ebX0_find_42
    simp only
    rw [l2 6 (by decide), hp.1]
    refine T_if (fun c => T_out (by decide) ⟨l1, l2, fun p' k' a b => l3 p' k' a (by omega)⟩) (fun c => ?_)
    have hl := hq.2.1 p p1.1 (by omega)
    have hb := hq.2.2.1 p p1.1 (by omega)
    refine T_bdl (Q := fun r => LyOk r.2.2 ∧ (∀ a, (a < 13 ∨ 84 < a) → r.2.2 a = m a) ∧ (∀ (x : Int), x % 3 = 1 → m' x 3 ≠ 0 → r.2.2 x 3 ≠ 0) ∧ ∀ k' : Nat, 1 ≤ k' → (k' : Int) ≤ q.2.1 p → r.2.2 (lyA k' (q.2.2.1 p)) 3 ≠ 0)
      (iter1 (fun k m2 => (1 ≤ k ∧ k ≤ q.2.1 p + 1) ∧ LyOk m2 ∧ (∀ a, (a < 13 ∨ 84 < a) → m2 a = m a) ∧ (∀ (x : Int), x % 3 = 1 → m' x 3 ≠ 0 → m2 x 3 ≠ 0) ∧ ∀ k' : Nat, 1 ≤ k' → (k' : Int) < k → m2 (lyA k' (q.2.2.1 p)) 3 ≠ 0) (fun k => (q.2.1 p + 1 - k).toNat) ⟨⟨by decide, by omega⟩, l1, l2, fun _ _ h => h, fun k' a b => by omega⟩ (by omega) ?_) ?_
    · rintro k m2 ⟨k1, k2, k3, k4, k5⟩
      unfold eBX0_find_57 ebX0_find_57
      simp only
      rw [k3 7 (by decide), k3 8 (by decide), (hp.2 p p1.1 (by omega)).1, (hp.2 p p1.1 (by omega)).2]
      refine T_ck ⟨p1.1, by omega⟩ (T_if (fun c => T_out (by decide) ⟨k2, k3, k4, fun k' a b => k5 k' a (by omega)⟩) (fun c => T_ck ⟨p1.1, by omega⟩ (T_bd2 (tX0_layingsOf ⟨k1.1, by omega⟩ hb) ?_)))
      intro r3 m3 e3
      obtain ⟨er3, em3⟩ := Prod.mk.inj e3
      rw [em3, er3]
      obtain ⟨kn', hkn⟩ : ∃ n : Nat, k = n := ⟨k.toNat, by omega⟩
      obtain ⟨bn, hbn⟩ : ∃ n : Nat, q.2.2.1 p = n := ⟨(q.2.2.1 p).toNat, by omega⟩
      have hr := lyA_r (k := k) (b := q.2.2.1 p) ⟨k1.1, by omega⟩ hb
      have go : ∀ m4 : Mem, LyOk m4 → (∀ a, (a < 13 ∨ 84 < a) → m4 a = m a) → (∀ (x : Int), x % 3 = 1 → m2 x 3 ≠ 0 → m4 x 3 ≠ 0) → m4 (lyA k (q.2.2.1 p)) 3 ≠ 0 → T (ebX0_find_123 x3 x4 x5 p k g m4) (G (fun r => (fun (k : Int) (m2 : Mem) => (1 ≤ k ∧ k ≤ q.2.1 p + 1) ∧ LyOk m2 ∧ (∀ a, (a < 13 ∨ 84 < a) → m2 a = m a) ∧ (∀ (x : Int), x % 3 = 1 → m' x 3 ≠ 0 → m2 x 3 ≠ 0) ∧ ∀ k' : Nat, 1 ≤ k' → (k' : Int) < k → m2 (lyA k' (q.2.2.1 p)) 3 ≠ 0) r.1 r.2) (fun r => (fun k : Int => (q.2.1 p + 1 - k).toNat) r.1) ((fun k : Int => (q.2.1 p + 1 - k).toNat) k) (fun r => LyOk r.2.2 ∧ (∀ a, (a < 13 ∨ 84 < a) → r.2.2 a = m a) ∧ (∀ (x : Int), x % 3 = 1 → m' x 3 ≠ 0 → r.2.2 x 3 ≠ 0) ∧ ∀ k' : Nat, 1 ≤ k' → (k' : Int) ≤ q.2.1 p → r.2.2 (lyA k' (q.2.2.1 p)) 3 ≠ 0)) := by
        intro m4 a1 a2 a3 a4
        unfold ebX0_find_123
        rw [w32_id (by omega) (by omega)]
        refine T_vv (T_go ⟨⟨by simp only; omega, by simp only; omega⟩, a1, a2, fun x h3 hx => a3 x h3 (k4 x h3 hx), fun k' b1 b2 => ?_⟩ (by simp only; omega))
        simp only at b2
        by_cases ek : (k' : Int) = k
        · rw [ek]; exact a4
        · exact a3 _ (by unfold lyA; omega) (k5 k' b1 (by omega))
      refine T_ck (by unfold lyA; exact hgk _ (by omega) (by omega)) (T_if (fun c2 => T_ck ⟨p1.1, by omega⟩ ?_) (fun c2 => go m2 k2 k3 (fun _ _ h => h) c2))
      rw [k3 8 (by decide), (hp.2 p p1.1 (by omega)).2]
      have e11 : m2 11 = m 11 := k3 11 (by decide)
      have e55 : m2 5 = m 5 := k3 5 (by decide)
      rw [e55, hj, show ej e = (((ej e).toNat : Nat) : Int) by omega, hkn, hbn]
      have hsz : Sz m2 (ez e 0).toNat (ez e 1).toNat (ez e 2).toNat := by
        unfold Sz
        rw [e11, e0, e1, e2]
        omega
      have hl2 := tX2_list (g := g) (x := lyA kn' bn) (J := (ej e).toNat) (k := kn') (bent := bn) (by rw [← hkn, ← hbn]; omega) hg11 hsz (by omega) (by omega) (by omega)
      refine T_bd2 hl2 ?_
      rintro r5 m5 ⟨u1, u2, u3, u4⟩
      dsimp only at u1 u2 u3 u4
      rw [hkn, hbn] at hr
      have f5 : ∀ a, (a < 13 ∨ 84 < a) → m5 a = m a := fun a ha => by rw [u4 a (by omega) (by omega) (by omega)]; exact k3 a ha
      have hgo := go m5 ?_ f5 ?_ (by rw [hkn, hbn, u2]; decide)
      · rw [hkn, hbn] at hgo; exact hgo
      · intro k' b' c1 c2 c3
        by_cases ee : lyA k' b' = lyA kn' bn
        · have : k' = kn' ∧ b' = bn := by unfold lyA at ee; omega
          rw [this.1, this.2]
          right
          rw [f5 11 (by decide), f5 5 (by decide), e0, e1, e2, hj]
          exact u1
        · have hr' := lyA_r (k := k') (b := b') (by omega) (by omega)
          have ne : lyA k' b' + 2 < lyA kn' bn ∨ lyA kn' bn + 2 < lyA k' b' := by unfold lyA at *; omega
          rw [f5 11 (by decide), f5 5 (by decide), ← e11, ← e55, u4 (lyA k' b') (by omega) (by omega) (by omega)]
          rcases k2 k' b' c1 c2 c3 with q1 | q1
          · exact Or.inl q1
          · exact Or.inr (q1.c (fun a a1 a2 => u4 a (by omega) (by omega) (by omega)))
      · intro x h3 hx
        by_cases ex : x = lyA kn' bn
        · rw [ex, u2]; decide
        · by_cases e1' : x = lyA kn' bn + 1 ∨ x = lyA kn' bn + 2
          · exfalso; unfold lyA at e1'; omega
          · rw [u4 x ex (by omega) (by omega)]; exact hx
    · rintro c' ⟨k, m2⟩ ⟨u1, u2, u3, u4⟩
      dsimp only at u1 u2 u3 u4
      unfold ebX0_find_129
      dsimp only
      rw [w32_id (by omega) (by omega)]
      refine T_vv (T_go ⟨⟨by simp only; omega, by simp only; omega⟩, u1, u2, fun p' k' a b d f => ?_⟩ (by simp only; omega))
      simp only at b
      by_cases ep : p' = p
      · rw [ep] at f ⊢; exact u4 k' d f
      · exact u3 _ (by unfold lyA; omega) (l3 p' k' a (by omega) d f)
  · rintro r ⟨u1, u2, u3⟩
    refine ⟨u1, fun p p0 p1 k k1 k2 => ?_, u2⟩
    have hb := hq.2.2.1 p p0 p1
    have hl := hq.2.1 p p0 p1
    obtain ⟨bn, hbn⟩ : ∃ n : Nat, q.2.2.1 p = n := ⟨(q.2.2.1 p).toNat, by omega⟩
    have := u3 p k p0 p1 k1 k2
    rw [hbn] at this ⊢
    exact kn _ k bn u1 (u2 11 (by decide)) (u2 5 (by decide)) k1 (by omega) (by omega) this
