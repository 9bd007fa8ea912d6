theorem tX11_firstStone {g : Shp} {m : Mem} {e : En} {al x : Int} {b b0 : Bg} (he : Eok e) (h : RfM m e al) (hE : Elx e al) (hx : 1 ≤ x ∧ x ≤ al) (hb : bok b) (hb0 : ble b b0) (hC : Cw e x b ≠ 1000000) (ht : TbF m e b0 x) :
    T (eX11_firstStone g x (cod b) (Cw e x b) m) (fun r => r = (4 * (fs e x b).1 + (fs e x b).2, m)) := by
  have hz := he.1
  have hz2 := he.z (s := 2) (by decide)
  have rg : ∀ len s, Good e x b len s → (1 ≤ len ∧ len ≤ ez e 2) ∧ (0 ≤ s ∧ s ≤ 2) ∧ len ≤ ez e s := by
    intro len s hg
    have h5 := hg.1.2.2.1
    have h7 := hg.1.1.1
    refine ⟨⟨hg.1.1.2, ?_⟩, h7, h5⟩
    rcases (show s = 0 ∨ s = 1 ∨ s = 2 by omega) with q | q | q <;> rw [q] at h5 <;> omega
  have by_ : ∀ len s, 1 ≤ len → len ≤ 9 → 0 ≤ s → s ≤ 2 → T (eX11_costBy g x (cod b) len s m) (fun r => r.2 = m ∧ (r.1 = Cw e x b ↔ Good e x b len s)) := by
    intro len s a1 a2 a3 a4
    refine T_mono (tX11_costBy he h hE hx hb hb0 ⟨a3, a4⟩ ⟨a1, a2⟩ ht) ?_
    rintro r ⟨u1, u2⟩
    refine ⟨u1, ?_⟩
    rcases u2 with ⟨v1, v2⟩ | ⟨v1, v2⟩
    · rw [v2]; exact ⟨fun q => ⟨v1, q⟩, fun q => q.2⟩
    · rw [v2]; exact ⟨fun q => absurd q.symm hC, fun q => absurd q.1 v1⟩
  unfold eX11_firstStone ebX11_firstStone_0
  rw [h.1 2 (by decide) (by decide)]
  refine T_ck (by decide) (T_vv (T_bdl (Q := fun r => r.1 = 1 ∧ r.2.2.2 = m ∧ FS e x b (r.2.1, r.2.2.1))
    (iter2 (fun len _ m' => (0 ≤ len ∧ len ≤ ez e 2) ∧ m' = m ∧ ∀ len' s', len < len' → ¬ Good e x b len' s') (fun len _ => len.toNat) ⟨by omega, rfl, fun len' s' hl hg => by have := (rg _ _ hg).1; omega⟩ (by omega) ?_) ?_))
  · rintro len j m' ⟨l1, rfl, l2⟩
    unfold eBX11_firstStone_8 ebX11_firstStone_8
    simp only
    refine T_if (fun c => ?_) (fun c => ?_)
    · have hg := (FS_ex he (x := x) (b := b) (by omega) hC).1
      exact absurd hg (l2 _ _ (by have := (rg _ _ hg).1; omega))
    · refine T_bdl (Q := fun r => r.2.2.2 = m' ∧ ((r.1 = 1 ∧ Good e x b len r.2.2.1 ∧ ∀ s', Good e x b len s' → r.2.2.1 ≤ s') ∨ r.1 = 2 ∧ ∀ s', ¬ Good e x b len s'))
        (iter2 (fun pa _ m2 => (0 ≤ pa ∧ pa ≤ 2) ∧ m2 = m' ∧ (0 < pa → ∀ s', ez e s' = len → ¬ Good e x b len s') ∧ (1 < pa → ∀ s', ez e s' ≠ len → ¬ Good e x b len s')) (fun pa _ => (2 - pa).toNat) ⟨by decide, rfl, fun h => by omega, fun h => by omega⟩ (by decide) ?_) ?_
      · rintro pa j2 m2 ⟨p1, rfl, p2, p3⟩
        unfold eBX11_firstStone_16 ebX11_firstStone_16
        simp only
        refine T_if (fun c1 => T_out (by decide) ⟨rfl, Or.inr ⟨rfl, fun s' hg => ?_⟩⟩) (fun c1 => ?_)
        · by_cases q : ez e s' = len
          · exact p2 (by omega) s' q hg
          · exact p3 (by omega) s' q hg
        · refine T_bdl (Q := fun r => r.2.2 = m2 ∧ ((r.1 = 1 ∧ Good e x b len r.2.1 ∧ ∀ s', Good e x b len s' → r.2.1 ≤ s') ∨ r.1 = 2 ∧ ∀ s', (ez e s' = len ↔ pa = 0) → ¬ Good e x b len s'))
            (iter1 (fun s m3 => (0 ≤ s ∧ s ≤ 3) ∧ m3 = m2 ∧ ∀ s', s' < s → (ez e s' = len ↔ pa = 0) → ¬ Good e x b len s') (fun s => (3 - s).toNat) ⟨by decide, rfl, fun s' hs _ hg => by have := (rg _ _ hg).2.1; omega⟩ (by decide) ?_) ?_
          · rintro s m3 ⟨s1, rfl, s2⟩
            unfold eBX11_firstStone_25 ebX11_firstStone_25
            simp only
            refine T_if (fun c2 => T_out (by decide) ⟨rfl, Or.inr ⟨rfl, fun s' hw hg => s2 s' (by have := (rg _ _ hg).2.1; omega) hw hg⟩⟩) (fun c2 => T_ck ⟨by omega, by omega⟩ ?_)
            rw [h.1 s s1.1 (by omega)]
            have go : ((ez e s = len ↔ pa = 0) → ¬ Good e x b len s) → T (ebX11_firstStone_87 g x (cod b) (Cw e x b) len pa s m3) (G (fun r => (fun (s : Int) (m4 : Mem) => (0 ≤ s ∧ s ≤ 3) ∧ m4 = m3 ∧ ∀ s', s' < s → (ez e s' = len ↔ pa = 0) → ¬ Good e x b len s') r.1 r.2) (fun r => (fun s : Int => (3 - s).toNat) r.1) ((fun s : Int => (3 - s).toNat) s) (fun r => r.2.2 = m3 ∧ ((r.1 = 1 ∧ Good e x b len r.2.1 ∧ ∀ s', Good e x b len s' → r.2.1 ≤ s') ∨ r.1 = 2 ∧ ∀ s', (ez e s' = len ↔ pa = 0) → ¬ Good e x b len s'))) := by
              intro hng
              unfold ebX11_firstStone_87
              rw [w32_id (by omega) (by omega)]
              refine T_vv (T_go ⟨⟨by simp only; omega, by simp only; omega⟩, rfl, fun s' hs' hw => ?_⟩ (by simp only; omega))
              simp only at hs'
              by_cases es : s' = s
              · rw [es] at hw ⊢; exact hng hw
              · exact s2 s' (by omega) hw
            have test : ∀ z0 : Int, (z0 = 1 ∧ ez e s = len ∨ z0 = 0 ∧ ez e s ≠ len) → T (ebX11_firstStone_48 g x (cod b) (Cw e x b) len pa s z0 m3) (G (fun r => (fun (s : Int) (m4 : Mem) => (0 ≤ s ∧ s ≤ 3) ∧ m4 = m3 ∧ ∀ s', s' < s → (ez e s' = len ↔ pa = 0) → ¬ Good e x b len s') r.1 r.2) (fun r => (fun s : Int => (3 - s).toNat) r.1) ((fun s : Int => (3 - s).toNat) s) (fun r => r.2.2 = m3 ∧ ((r.1 = 1 ∧ Good e x b len r.2.1 ∧ ∀ s', Good e x b len s' → r.2.1 ≤ s') ∨ r.1 = 2 ∧ ∀ s', (ez e s' = len ↔ pa = 0) → ¬ Good e x b len s'))) := by
              intro z0 hz0
              have inn : ∀ z1 : Int, (z1 = 1 ∧ pa = 0 ∨ z1 = 0 ∧ pa ≠ 0) → T (ebX11_firstStone_62 g x (cod b) (Cw e x b) len pa s z0 z1 m3) (G (fun r => (fun (s : Int) (m4 : Mem) => (0 ≤ s ∧ s ≤ 3) ∧ m4 = m3 ∧ ∀ s', s' < s → (ez e s' = len ↔ pa = 0) → ¬ Good e x b len s') r.1 r.2) (fun r => (fun s : Int => (3 - s).toNat) r.1) ((fun s : Int => (3 - s).toNat) s) (fun r => r.2.2 = m3 ∧ ((r.1 = 1 ∧ Good e x b len r.2.1 ∧ ∀ s', Good e x b len s' → r.2.1 ≤ s') ∨ r.1 = 2 ∧ ∀ s', (ez e s' = len ↔ pa = 0) → ¬ Good e x b len s'))) := by
                intro z1 hz1
                unfold ebX11_firstStone_62
                refine T_if (fun d1 => ?_) (fun d1 => go (fun hw => ?_))
                · refine T_bd2 (by_ len s (by omega) (by omega) s1.1 (by omega)) ?_
                  rintro r4 m4 ⟨e4, u⟩
                  dsimp only at e4 u
                  subst e4
                  refine T_if (fun d2 => T_out (by decide) ⟨rfl, Or.inl ⟨rfl, u.mp d2, fun s' hg => ?_⟩⟩) (fun d2 => go (fun _ hg => d2 (u.mpr hg)))
                  dsimp only
                  have hg' := (rg _ _ hg).2
                  by_cases hs' : s' < s
                  · exfalso
                    by_cases hw : (ez e s' = len ↔ pa = 0)
                    · exact s2 s' hs' hw hg
                    · rcases hz1 with ⟨a1, a2⟩ | ⟨a1, a2⟩
                      · have e1 : ez e s = len := by rcases hz0 with ⟨_, q⟩ | ⟨q, _⟩; exact q; omega
                        have : ez e s' < ez e s := by
                          rcases (show s' = 0 ∧ s = 1 ∨ s' = 0 ∧ s = 2 ∨ s' = 1 ∧ s = 2 by omega) with ⟨q1, q2⟩ | ⟨q1, q2⟩ | ⟨q1, q2⟩ <;> rw [q1, q2] <;> omega
                        omega
                      · have : ez e s' = len := by
                          by_cases q : ez e s' = len
                          · exact q
                          · exact absurd ⟨fun h => absurd h q, fun h => absurd h a2⟩ hw
                        exact p2 (by omega) s' this hg
                  · omega
                · exfalso
                  rcases hz0 with ⟨a1, a2⟩ | ⟨a1, a2⟩
                  · rcases hz1 with ⟨b1, b2⟩ | ⟨b1, b2⟩
                    · omega
                    · exact b2 (hw.mp a2)
                  · rcases hz1 with ⟨b1, b2⟩ | ⟨b1, b2⟩
                    · exact a2 (hw.mpr b2)
                    · omega
              unfold ebX11_firstStone_48
              exact T_if (fun d => inn 1 (Or.inl ⟨rfl, d⟩)) (fun d => inn 0 (Or.inr ⟨rfl, d⟩))
            exact T_if (fun d => test 1 (Or.inl ⟨rfl, d⟩)) (fun d => test 0 (Or.inr ⟨rfl, d⟩))
          · rintro c3 ⟨s, m3⟩ ⟨e3, u⟩
            dsimp only at e3 u ⊢
            subst e3
            rcases u with ⟨a1, a2, a3⟩ | ⟨a1, a2⟩
            · subst a1
              exact T_it rfl (T_out (by decide) ⟨rfl, Or.inl ⟨rfl, a2, a3⟩⟩)
            · subst a1
              refine T_ie (by decide) ?_
              unfold ebX11_firstStone_93
              rw [w32_id (by omega) (by omega)]
              refine T_vv (T_go ⟨⟨by simp only; omega, by simp only; omega⟩, rfl, fun _ s' hs' hg => ?_, fun hp s' hs' hg => ?_⟩ (by simp only; omega))
              · by_cases hp0 : pa = 0
                · exact a2 s' ⟨fun _ => hp0, fun _ => hs'⟩ hg
                · exact p2 (by omega) s' hs' hg
              · simp only at hp
                exact a2 s' ⟨fun h => absurd h hs', fun h => by omega⟩ hg
      · rintro c2 ⟨pa, s, m2⟩ ⟨e2, u⟩
        dsimp only at e2 u ⊢
        subst e2
        rcases u with ⟨a1, a2, a3⟩ | ⟨a1, a2⟩
        · subst a1
          refine T_it rfl (T_out (by decide) ⟨rfl, rfl, a2, fun len' s' hg => ?_, a3⟩)
          dsimp only
          by_cases q : len < len'
          · exact absurd hg (l2 len' s' q)
          · omega
        · subst a1
          refine T_ie (by decide) ?_
          unfold ebX11_firstStone_99
          rw [show len + (-1) = len - 1 by omega, w32_id (by omega) (by omega)]
          refine T_vv (T_go ⟨⟨by simp only; omega, by simp only; omega⟩, rfl, fun len' s' hl => ?_⟩ (by simp only; omega))
          simp only at hl
          by_cases q : len' = len
          · rw [q]; exact a2 s'
          · exact l2 len' s' (by omega)
  · rintro c ⟨len, s, m'⟩ ⟨e1, e2, hF⟩
    dsimp only at e1 e2 hF ⊢
    subst e1
    subst e2
    refine T_it rfl ?_
    unfold ebX11_firstStone_79
    have hg := (rg _ _ hF.1)
    dsimp only at hg
    rw [FS_eq hF, w32_id (x := 4 * len) (by omega) (by omega), w32_id (by omega) (by omega)]
    exact T_some rfl
/-- the reference's way lies in its rows -/
def RWay (m : Mem) (d : Dt) (R : Int → Int) (i c : Int) : Prop := m 241 36 = cR d R i c / 32 ∧ m 241 35 = cR d R i c % 32 ∧ ∀ n : Nat, (n : Int) < cR d R i c % 32 → m 263 n = (sR d R i c).1 n ∧ m 264 n = (sR d R i c).2.1 n ∧ m 265 n = (sR d R i c).2.2 n
def RwF (m m' : Mem) : Prop := (∀ b, b ≠ 27 → b ≠ 35 → b ≠ 36 → m' 241 b = m 241 b) ∧ ∀ a, a ≠ 241 → (a < 257 ∨ 265 < a) → m' a = m a
theorem tX11_findWay {g : Shp} {m : Mem} {d : Dt} {i c : Int} (hdt : dt m = d) (hd : WPl d) (hi : 0 ≤ i ∧ i < dl d) (hW : WRow d (m 242)) (hc : 0 ≤ c ∧ c ≤ 2) :
    T (eX11_findWay g i c m) (fun r => RwF m r.2 ∧ ((r.1 = 0 ∧ cR d (m 242) i c = 1000000) ∨ (r.1 = 1 ∧ cR d (m 242) i c ≠ 1000000 ∧ RWay r.2 d (m 242) i c))) := by
  have hwl := hd.2.2 i hi.1 hi.2
  have hq := Wq_of hwl (m 242)
  have he : Eok (enR d (m 242) i) := ⟨hd.2.1, hW.1⟩
  have hb : bok (bR (m 242) c) := ⟨hW.2.1 _ (by omega) (by omega), hW.2.1 _ (by omega) (by omega), hW.2.1 _ (by omega) (by omega)⟩
  have hPos := Pos_0 hq
  have hCv : cR d (m 242) i c = Cw (enR d (m 242) i) (xR d (m 242) i) (bR (m 242) c) := rfl
  unfold eX11_findWay ebX11_findWay_0
  refine T_bd2 (tX11_findPieces hdt hd.1.2 hi hwl) ?_
  rintro r1 m1 ⟨a1, b1, c1⟩
  dsimp only at a1 b1 c1
  refine T_bd2 (tX11_layRest hq a1) ?_
  rintro al m2 ⟨a2, b2, c2⟩
  dsimp only at a2 b2 c2
  rw [w32_id (x := 3 * c) (by omega) (by omega), w32_id (by omega) (by omega)]
  have hal : al = xR d (m 242) i := by
    rw [a2]
    unfold xR lft lfl
    by_cases h0 : 0 < (pcOf d (m 242) i).1
    · rw [if_pos h0, if_pos h0]
      obtain ⟨j, hj⟩ : ∃ j : Nat, (pcOf d (m 242) i).1 = j + 1 := ⟨((pcOf d (m 242) i).1 - 1).toNat, by omega⟩
      unfold lS
      rw [show (pcOf d (m 242) i).1.toNat = j + 1 by omega, show ((pcOf d (m 242) i).1 - 1 - 0).toNat = j by omega]
      show (LR (pcOf d (m 242) i) j).1 + (pcOf d (m 242) i).2.1 ((pcOf d (m 242) i).1 - 1 - j) = _
      rw [show (pcOf d (m 242) i).1 - 1 - (j : Int) = 0 by omega]
    · rw [if_neg h0, show (pcOf d (m 242) i).1.toNat = 0 by have := hq.1; omega]
      rfl
  have hx60 := hPos.x hq
  have hxr : 0 ≤ xR d (m 242) i ∧ xR d (m 242) i ≤ 60 := ⟨hx60.1, hx60.2.1⟩
  have f2 : ∀ a, a ≠ 241 → a ≠ 257 → a ≠ 258 → a ≠ 261 → a ≠ 262 → m2 a = m a := fun a q1 q2 q3 q4 q5 => by rw [c2 a q4 q5, c1 a q1 q2 q3]
  have hd252 : m 252 = dz d := by rw [← hdt]; rfl
  have hRf : RfM m2 (enR d (m 242) i) al := by
    refine ⟨fun s _ _ => by rw [f2 252 (by decide) (by decide) (by decide) (by decide) (by decide), hd252]; rfl, by rw [f2 242 (by decide) (by decide) (by decide) (by decide) (by decide)]; rfl, by rw [hal]; exact hxr, fun x x1 x2 => ?_⟩
    exact b2 x x1 (by rw [← a2]; exact x2)
  have hEx : Elx (enR d (m 242) i) al := by
    intro x x1 x2
    rw [a2] at x2
    have key : ∀ j : Nat, (j : Int) ≤ (pcOf d (m 242) i).1 → ∀ x, 1 ≤ x → x ≤ (LR (pcOf d (m 242) i) j).1 → 1 ≤ (LR (pcOf d (m 242) i) j).2.1 x ∧ (LR (pcOf d (m 242) i) j).2.1 x ≤ 12 ∧ (LR (pcOf d (m 242) i) j).2.1 x ≤ x := by
      intro j
      induction j with
      | zero => intro _ x x1 x2; have : x ≤ 0 := x2; omega
      | succ j ih =>
        intro hj x x1 x2
        have hl := hq.2.1 ((pcOf d (m 242) i).1 - 1 - j) (by omega) (by omega)
        have h0 := LR_0 hq (j := j) (by omega)
        have x2 : x ≤ (LR (pcOf d (m 242) i) j).1 + (pcOf d (m 242) i).2.1 ((pcOf d (m 242) i).1 - 1 - j) := x2
        show 1 ≤ (if (LR (pcOf d (m 242) i) j).1 < x ∧ x ≤ (LR (pcOf d (m 242) i) j).1 + (pcOf d (m 242) i).2.1 ((pcOf d (m 242) i).1 - 1 - j) then x - (LR (pcOf d (m 242) i) j).1 else (LR (pcOf d (m 242) i) j).2.1 x) ∧ (if (LR (pcOf d (m 242) i) j).1 < x ∧ x ≤ (LR (pcOf d (m 242) i) j).1 + (pcOf d (m 242) i).2.1 ((pcOf d (m 242) i).1 - 1 - j) then x - (LR (pcOf d (m 242) i) j).1 else (LR (pcOf d (m 242) i) j).2.1 x) ≤ 12 ∧ (if (LR (pcOf d (m 242) i) j).1 < x ∧ x ≤ (LR (pcOf d (m 242) i) j).1 + (pcOf d (m 242) i).2.1 ((pcOf d (m 242) i).1 - 1 - j) then x - (LR (pcOf d (m 242) i) j).1 else (LR (pcOf d (m 242) i) j).2.1 x) ≤ x
        by_cases q : (LR (pcOf d (m 242) i) j).1 < x
        · rw [if_pos ⟨q, x2⟩]; omega
        · rw [if_neg (fun h => q h.1)]; exact ih (by omega) x x1 (by omega)
    exact key _ (by have := hq.1; omega) x x1 x2
  have h242 : m2 242 = m 242 := f2 242 (by decide) (by decide) (by decide) (by decide) (by decide)
  refine T_vv (T_bdl (tX11_table (b0 := bR (m 242) c) he hRf hEx hb hc (by rw [h242]; exact ⟨rfl, rfl, rfl⟩)) ?_)
  rintro c3 ⟨z3, m3⟩ ⟨a3, b3⟩
  dsimp only at a3 b3
  unfold ebX11_findWay_161
  rw [w32_id (x := 1 + 3 * c + 1) (by omega) (by omega), w32_id (x := 1 + 3 * c + 2) (by omega) (by omega)]
  dsimp only
  have e3b : ∀ k, m3 242 k = m 242 k := fun k => by rw [b3 242 (by decide) (by decide), h242]
  rw [e3b, e3b, e3b]
  have hb1 : (0 ≤ m 242 (1 + 3 * c) ∧ m 242 (1 + 3 * c) ≤ 6) ∧ (0 ≤ m 242 (1 + 3 * c + 1) ∧ m 242 (1 + 3 * c + 1) ≤ 6) ∧ 0 ≤ m 242 (1 + 3 * c + 2) ∧ m 242 (1 + 3 * c + 2) ≤ 6 := hb
  rw [w32_id (x := 49 * m 242 (1 + 3 * c)) (by omega) (by omega), w32_id (x := 7 * m 242 (1 + 3 * c + 1)) (by omega) (by omega), w32_id (x := 49 * m 242 (1 + 3 * c) + 7 * m 242 (1 + 3 * c + 1)) (by omega) (by omega), w32_id (by omega) (by omega)]
  have hcod : 49 * m 242 (1 + 3 * c) + 7 * m 242 (1 + 3 * c + 1) + m 242 (1 + 3 * c + 2) = cod (bR (m 242) c) := rfl
  rw [hcod]
  have hcr := cod_r hb
  refine T_ck ⟨by omega, by omega⟩ (T_ck ⟨by omega, by omega⟩ (T_ck ⟨by omega, by omega⟩ (T_vv (T_bd2 (tX11_costAt ⟨by rw [hal]; exact hxr.1, by rw [hal]; exact hxr.2⟩ hcr) ?_))))
  intro r4 m4 e4
  obtain ⟨er4, em4⟩ := Prod.mk.inj e4
  have hble : ble (bR (m 242) c) (bR (m 242) c) := ⟨Int.le_refl _, Int.le_refl _, Int.le_refl _⟩
  rw [a3 al (by rw [hal]; exact hxr.1) (by omega) _ hb hble, hal, ← hCv] at er4
  rw [er4, em4]
  have fr3 : RwF m m3 := ⟨fun b q1 _ _ => by rw [b3 241 (by decide) (by decide), c2 241 (by decide) (by decide), b1 b q1], fun a q1 q2 => by rw [b3 a (by omega) (by omega), f2 a q1 (by omega) (by omega) (by omega) (by omega)]⟩
  refine T_if (fun cc => T_some ⟨fr3, Or.inl ⟨rfl, cc⟩⟩) (fun cc => ?_)
  have hvb := Cw_vb he (x := xR d (m 242) i) hb
  unfold vb at hvb
  rw [← hCv] at hvb
  have hm18 := (Cw_m he _ (xR d (m 242) i) (bR (m 242) c) (Nat.le_refl _) hb cc).1
  rw [← hCv] at hm18
  have hbs := bok_s hb
  rw [jdiv_n (by omega) (by decide) (by omega), jrem_n (by omega) (by decide) (by omega)]
  refine T_vm' (fun m5 e5 => T_vm' (fun m6 e6 => ?_))
  have f6 : ∀ a, a ≠ 241 → m6 a = m3 a := fun a ha => by rw [e6, ms_f ha, e5, ms_f ha]
  have e641 : ∀ b, b ≠ 35 → b ≠ 36 → m6 241 b = m3 241 b := fun b q1 q2 => by rw [e6, ms_y q1, e5, ms_y q2]
  have e635 : m6 241 35 = cR d (m 242) i c % 32 := by rw [e6, ms_at]
  have e636 : m6 241 36 = cR d (m 242) i c / 32 := by rw [e6, ms_y (by decide), e5, ms_at]
  have hRf3 : RfM m3 (enR d (m 242) i) al := hRf.c (b3 252 (by decide) (by decide)) (b3 242 (by decide) (by decide)) (b3 261 (by decide) (by decide)) (b3 262 (by decide) (by decide))
  refine T_bdl (Q := fun r => RwF m r.2.2.2.2 ∧ RWay r.2.2.2.2 d (m 242) i c)
    (iter3 (fun v x n m' => (0 ≤ n ∧ n ≤ cR d (m 242) i c % 32) ∧ v = cod (tr (enR d (m 242) i) (xR d (m 242) i) (bR (m 242) c) n.toNat).2 ∧ x = (tr (enR d (m 242) i) (xR d (m 242) i) (bR (m 242) c) n.toNat).1 ∧ ble (tr (enR d (m 242) i) (xR d (m 242) i) (bR (m 242) c) n.toNat).2 (bR (m 242) c) ∧ (∀ k : Nat, (k : Int) < n → m' 263 k = (sR d (m 242) i c).1 k ∧ m' 264 k = (sR d (m 242) i c).2.1 k ∧ m' 265 k = (sR d (m 242) i c).2.2 k) ∧ m' 241 = m6 241 ∧ ∀ a, a ≠ 263 → a ≠ 264 → a ≠ 265 → m' a = m6 a) (fun _ _ n => (18 - n).toNat)
      ⟨by omega, rfl, hal, hble, fun k hk => by omega, rfl, fun _ _ _ _ => rfl⟩ (by decide) ?_) ?_
  · rintro v x n m' ⟨n1, hv, hx, hbn, hst, h241, hfr⟩
    unfold eBX11_findWay_238 ebX11_findWay_238
    simp only
    rw [h241, e635]
    refine T_if (fun c1 => T_out (by decide) ⟨?_, ?_⟩) (fun c1 => ?_)
    · refine ⟨fun b q1 q2 q3 => ?_, fun a q1 q2 => ?_⟩
      · dsimp only; rw [h241, e641 b q2 q3]; exact fr3.1 b q1 q2 q3
      · dsimp only; rw [hfr a (by omega) (by omega) (by omega), f6 a q1]; exact fr3.2 a q1 q2
    · refine ⟨by dsimp only; rw [h241]; exact e636, by dsimp only; rw [h241]; exact e635, fun k hk => hst k (by omega)⟩
    · have hle : ((n.toNat : Nat) : Int) ≤ cR d (m 242) i c % 32 := by omega
      obtain ⟨⟨p', k', hPn⟩, hbb, hCn, hmn⟩ := tr_all hq he hb hPos cc n.toNat hle
      have hmn : Cw (enR d (m 242) i) (tr (enR d (m 242) i) (xR d (m 242) i) (bR (m 242) c) n.toNat).1 (tr (enR d (m 242) i) (xR d (m 242) i) (bR (m 242) c) n.toNat).2 % 32 = cR d (m 242) i c % 32 - n.toNat := hmn
      have hbb : bok (tr (enR d (m 242) i) (xR d (m 242) i) (bR (m 242) c) n.toNat).2 := hbb
      have hCn : Cw (enR d (m 242) i) (tr (enR d (m 242) i) (xR d (m 242) i) (bR (m 242) c) n.toNat).1 (tr (enR d (m 242) i) (xR d (m 242) i) (bR (m 242) c) n.toNat).2 ≠ 1000000 := hCn
      have hPn : Pos (pcOf d (m 242) i) (tr (enR d (m 242) i) (xR d (m 242) i) (bR (m 242) c) n.toNat).1 p' k' := hPn
      have est : (sR d (m 242) i c).1 n.toNat = (fs (enR d (m 242) i) (tr (enR d (m 242) i) (xR d (m 242) i) (bR (m 242) c) n.toNat).1 (tr (enR d (m 242) i) (xR d (m 242) i) (bR (m 242) c) n.toNat).2).1 := rfl
      have est2 : (sR d (m 242) i c).2.1 n.toNat = (fs (enR d (m 242) i) (tr (enR d (m 242) i) (xR d (m 242) i) (bR (m 242) c) n.toNat).1 (tr (enR d (m 242) i) (xR d (m 242) i) (bR (m 242) c) n.toNat).2).2 := rfl
      have est3 : (sR d (m 242) i c).2.2 n.toNat = asl1 (enR d (m 242) i) (tr (enR d (m 242) i) (xR d (m 242) i) (bR (m 242) c) n.toNat).1 (fs (enR d (m 242) i) (tr (enR d (m 242) i) (xR d (m 242) i) (bR (m 242) c) n.toNat).1 (tr (enR d (m 242) i) (xR d (m 242) i) (bR (m 242) c) n.toNat).2).1 (fs (enR d (m 242) i) (tr (enR d (m 242) i) (xR d (m 242) i) (bR (m 242) c) n.toNat).1 (tr (enR d (m 242) i) (xR d (m 242) i) (bR (m 242) c) n.toNat).2).2 := rfl
      have ets := tr_s (enR d (m 242) i) (xR d (m 242) i) (bR (m 242) c) n.toNat
      have estn : stn (enR d (m 242) i) (xR d (m 242) i) (bR (m 242) c) n.toNat = fs (enR d (m 242) i) (tr (enR d (m 242) i) (xR d (m 242) i) (bR (m 242) c) n.toNat).1 (tr (enR d (m 242) i) (xR d (m 242) i) (bR (m 242) c) n.toNat).2 := rfl
      rw [estn] at ets
      have hxx := hPn.x hq
      rw [← hx] at hxx hmn hCn est est2 est3 ets hPn
      have hx0 : 0 < x := by
        by_cases q1 : 0 < x
        · exact q1
        · rw [Cw_0 (by omega)] at hmn
          omega
      have hxal : x ≤ al := by
        rw [hal]
        rw [hx]
        have key : ∀ k : Nat, (k : Int) ≤ cR d (m 242) i c % 32 → (tr (enR d (m 242) i) (xR d (m 242) i) (bR (m 242) c) k).1 ≤ xR d (m 242) i := by
          intro k
          induction k with
          | zero => intro _; exact Int.le_refl _
          | succ k ih =>
            intro hk
            have ih1 := ih (by omega)
            obtain ⟨⟨p2, k2, hP2⟩, hb2, hC2, hm2⟩ := tr_all hq he hb hPos cc k (show (k : Int) ≤ cR d (m 242) i c % 32 by omega)
            have hm2 : Cw (enR d (m 242) i) (tr (enR d (m 242) i) (xR d (m 242) i) (bR (m 242) c) k).1 (tr (enR d (m 242) i) (xR d (m 242) i) (bR (m 242) c) k).2 % 32 = cR d (m 242) i c % 32 - k := hm2
            have hC2 : Cw (enR d (m 242) i) (tr (enR d (m 242) i) (xR d (m 242) i) (bR (m 242) c) k).1 (tr (enR d (m 242) i) (xR d (m 242) i) (bR (m 242) c) k).2 ≠ 1000000 := hC2
            have hx2 : 0 < (tr (enR d (m 242) i) (xR d (m 242) i) (bR (m 242) c) k).1 := by
              by_cases q1 : 0 < (tr (enR d (m 242) i) (xR d (m 242) i) (bR (m 242) c) k).1
              · exact q1
              · rw [Cw_0 (by omega)] at hm2
                omega
            have hlt := aft_lt he (FS_ex he hx2 hC2).1.1
            rw [tr_s]
            dsimp only
            have : aft (enR d (m 242) i) (tr (enR d (m 242) i) (xR d (m 242) i) (bR (m 242) c) k).1 (stn (enR d (m 242) i) (xR d (m 242) i) (bR (m 242) c) k).1 < (tr (enR d (m 242) i) (xR d (m 242) i) (bR (m 242) c) k).1 := hlt
            omega
        exact key n.toNat hle
      generalize hbN : (tr (enR d (m 242) i) (xR d (m 242) i) (bR (m 242) c) n.toNat).2 = bN at *
      have hRf' : RfM m' (enR d (m 242) i) al := hRf3.c (by rw [hfr 252 (by decide) (by decide) (by decide), f6 252 (by decide)]) (by rw [hfr 242 (by decide) (by decide) (by decide), f6 242 (by decide)]) (by rw [hfr 261 (by decide) (by decide) (by decide), f6 261 (by decide)]) (by rw [hfr 262 (by decide) (by decide) (by decide), f6 262 (by decide)])
      have hTb : TbF m' (enR d (m 242) i) (bR (m 242) c) (al + 1) := fun x' q1 q2 b' q3 q4 => by
        rw [tbl_c (by rw [hfr 259 (by decide) (by decide) (by decide), f6 259 (by decide)]) (by rw [hfr 260 (by decide) (by decide) (by decide), f6 260 (by decide)])]
        exact a3 x' q1 q2 b' q3 q4
      rw [hv]
      have hcn := cod_r hbb
      refine T_bd2 (tX11_costAt ⟨by omega, by omega⟩ hcn) ?_
      intro r7 m7 e7
      obtain ⟨er7, em7⟩ := Prod.mk.inj e7
      rw [hTb x (by omega) (by omega) bN hbb hbn] at er7
      rw [er7, em7]
      refine T_bd2 (tX11_firstStone he hRf' hEx ⟨by omega, hxal⟩ hbb hbn hCn (fun x' q1 q2 => hTb x' q1 (by omega))) ?_
      intro r8 m8 e8
      obtain ⟨er8, em8⟩ := Prod.mk.inj e8
      rw [er8, em8]
      have hFS := FS_ex he (x := x) (b := bN) hx0 hCn
      have hvl := hFS.1.1
      have hzs := he.z hvl.1.1
      have hvl3 := hvl.2.2.1
      have hvl1 := hvl.1
      generalize hst8 : fs (enR d (m 242) i) x bN = st8 at *
      rw [jdiv_n (by omega) (by decide) (by omega), jrem_n (by omega) (by decide) (by omega), show (4 * st8.1 + st8.2) / 4 = st8.1 by omega, show (4 * st8.1 + st8.2) % 4 = st8.2 by omega]
      refine T_vv (T_ck ⟨by omega, by omega⟩ (T_vm' (fun m9 e9 => T_ck ⟨by omega, by omega⟩ (T_vm' (fun m10 e10 => ?_)))))
      have hRf10 : RfM m10 (enR d (m 242) i) al := hRf'.c (by rw [e10, ms_f (by decide), e9, ms_f (by decide)]) (by rw [e10, ms_f (by decide), e9, ms_f (by decide)]) (by rw [e10, ms_f (by decide), e9, ms_f (by decide)]) (by rw [e10, ms_f (by decide), e9, ms_f (by decide)])
      refine T_bd2 (tX11_isCutAslant hRf10 ⟨by omega, hxal⟩) ?_
      intro r11 m11 e11
      obtain ⟨er11, em11⟩ := Prod.mk.inj e11
      rw [er11, em11]
      refine T_ck ⟨by omega, by omega⟩ (T_vm' (fun m12 e12 => T_ck ⟨by omega, by omega⟩ ?_))
      have f12 : ∀ a, a ≠ 263 → a ≠ 264 → a ≠ 265 → m12 a = m' a := fun a q1 q2 q3 => by rw [e12, ms_f q3, e10, ms_f q2, e9, ms_f q1]
      rw [f12 261 (by decide) (by decide) (by decide), (hRf'.2.2.2 x (by omega) hxal).1, f12 242 (by decide) (by decide) (by decide), hRf'.2.1]
      have hel := hEx x (by omega) hxal
      have hj := he.2
      have hbd := bdc_ok hbb hvl.2.1
      have hcd := cod_r hbd
      have fin : ∀ z2 : Int, x - (st8.1 + z2) = aft (enR d (m 242) i) x st8.1 → 0 ≤ z2 → z2 ≤ 2 → T (ebX11_findWay_336 g (cod bN) n (4 * st8.1 + st8.2) x st8.1 z2 m12) (G (fun q => (fun (v x n : Int) (m' : Mem) => (0 ≤ n ∧ n ≤ cR d (m 242) i c % 32) ∧ v = cod (tr (enR d (m 242) i) (xR d (m 242) i) (bR (m 242) c) n.toNat).2 ∧ x = (tr (enR d (m 242) i) (xR d (m 242) i) (bR (m 242) c) n.toNat).1 ∧ ble (tr (enR d (m 242) i) (xR d (m 242) i) (bR (m 242) c) n.toNat).2 (bR (m 242) c) ∧ (∀ k : Nat, (k : Int) < n → m' 263 k = (sR d (m 242) i c).1 k ∧ m' 264 k = (sR d (m 242) i c).2.1 k ∧ m' 265 k = (sR d (m 242) i c).2.2 k) ∧ m' 241 = m6 241 ∧ ∀ a, a ≠ 263 → a ≠ 264 → a ≠ 265 → m' a = m6 a) q.1 q.2.1 q.2.2.1 q.2.2.2) (fun q => (fun (_ _ n : Int) => (18 - n).toNat) q.1 q.2.1 q.2.2.1) ((fun (_ _ n : Int) => (18 - n).toNat) v x n) (fun r => RwF m r.2.2.2.2 ∧ RWay r.2.2.2.2 d (m 242) i c)) := by
        intro z2 hz2 hz3 hz4
        unfold ebX11_findWay_336
        rw [show (4 * st8.1 + st8.2) = 4 * st8.1 + st8.2 from rfl, jrem_n (by omega) (by decide) (by omega), show (4 * st8.1 + st8.2) % 4 = st8.2 by omega, w32_id (x := st8.1 + z2) (by omega) (by omega), hz2]
        have hlt := aft_lt he hvl
        have ha0 : 0 ≤ aft (enR d (m 242) i) x st8.1 := by
          have := hvl.2.2.2
          unfold aft
          split <;> omega
        rw [w32_id (by omega) (by omega)]
        refine T_vv (T_bd2 tX11_oneOf ?_)
        intro r13 m13 e13
        obtain ⟨er13, em13⟩ := Prod.mk.inj e13
        rw [er13, em13, cod_dc, w32_id (by omega) (by omega), w32_id (by omega) (by omega)]
        have es : (n + 1).toNat = n.toNat + 1 := by omega
        refine T_vv (T_vv (T_go ⟨⟨by simp only; omega, by simp only; omega⟩, ?_, ?_, ?_, fun k hk => ?_, ?_, fun a q1 q2 q3 => ?_⟩ (by simp only; omega)))
        · simp only [es]; rw [ets]
        · simp only [es]; rw [ets]
        · simp only [es]
          rw [ets]
          dsimp only
          have h1 : ble (bdc bN st8.2) bN := by
            rw [bdc_un]
            have := unb_r st8.2
            unfold ble
            dsimp only
            omega
          unfold ble at *
          omega
        · simp only at hk ⊢
          by_cases ek : (k : Int) = n
          · have ek2 : k = n.toNat := by omega
            rw [ek2, show ((n.toNat : Nat) : Int) = n by omega, est, est2, est3]
            refine ⟨?_, ?_, ?_⟩
            · rw [e12, ms_x (by decide), e10, ms_x (by decide), e9, ms_at]
            · rw [e12, ms_x (by decide), e10, ms_at]
            · rw [e12, ms_at]
          · have := hst k (by omega)
            rw [e12, ms_x (by decide), ms_x (by decide), ms_y ek, e10, ms_x (by decide), ms_y ek, ms_x (by decide), e9, ms_y ek, ms_x (by decide), ms_x (by decide)]
            exact this
        · simp only
          rw [f12 241 (by decide) (by decide) (by decide)]; exact h241
        · simp only
          rw [f12 a q1 q2 q3]; exact hfr a q1 q2 q3
      have hv5 := hvl.2.2.2
      rw [← hv]
      refine T_if (fun c2 => ?_) (fun c2 => T_ck (by decide) ?_)
      · have := fin 0 (by unfold aft; rw [if_pos (by omega)]; omega) (by decide) (by decide)
        rw [← hv] at this
        exact this
      · have := fin (ej (enR d (m 242) i)) (by unfold aft; rw [if_neg (by omega)]; omega) hj.1 hj.2
        rw [← hv] at this
        exact this
  · rintro c14 ⟨v, x, n, m'⟩ hh
    exact T_some ⟨hh.1, Or.inr ⟨rfl, cc, hh.2⟩⟩
