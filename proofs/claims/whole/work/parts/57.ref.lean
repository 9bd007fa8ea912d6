/-! ===== a run goes: the reference's side ===== -/
theorem onC_n {k c : Int} {ce : Int → Int} (hn : 0 ≤ k) : onC (k + 1) ce c = (onC k ce c || decide (ce k = c)) := by
  rw [Bool.eq_iff_iff, Bool.or_eq_true, decide_eq_true_iff, onC_iff, onC_iff]
  constructor
  · rintro ⟨j, h1, h2, h3⟩
    by_cases q : j = k
    · rw [q] at h3; exact Or.inr h3
    · exact Or.inl ⟨j, h1, by omega, h3⟩
  · rintro (⟨j, h1, h2, h3⟩ | h)
    · exact ⟨j, h1, by omega, h3⟩
    · exact ⟨k, hn, by omega, h⟩
theorem tX11_addCell {g : Shp} {m : Mem} {X Y n : Int} {l : Nat} {ce : Int → Int} (hl : l < 3) (h10 : m 241 10 = l) (hX : m 241 15 = X) (hY : m 241 16 = Y) (hb : (-1 ≤ X ∧ X ≤ 20) ∧ -1 ≤ Y ∧ Y ≤ 20) (hn : m 250 l = n) (hn2 : 0 ≤ n ∧ n < 60) (hc : ∀ k, 0 ≤ k → k < n → m 251 (60 * l + k) = ce k) :
    T (eX11_addCell g m) (fun q => (q = (1, ms (ms m 251 (60 * l + n) (20 * Y + X)) 250 l (n + 1)) ∧ ((0 ≤ X ∧ X ≤ 19) ∧ 0 ≤ Y ∧ Y ≤ 19) ∧ onC n ce (20 * Y + X) = false) ∨ q = (0, m) ∧ ¬ (((0 ≤ X ∧ X ≤ 19) ∧ 0 ≤ Y ∧ Y ≤ 19) ∧ onC n ce (20 * Y + X) = false)) := by
  have main : ∀ z0 : Int, (z0 = 1 ∧ ((0 ≤ X ∧ X ≤ 19) ∧ 0 ≤ Y ∧ Y ≤ 19) ∨ z0 = 0 ∧ ¬ ((0 ≤ X ∧ X ≤ 19) ∧ 0 ≤ Y ∧ Y ≤ 19)) → T (ebX11_addCell_36 g l z0 m) (fun q => (q = (1, ms (ms m 251 (60 * l + n) (20 * Y + X)) 250 l (n + 1)) ∧ ((0 ≤ X ∧ X ≤ 19) ∧ 0 ≤ Y ∧ Y ≤ 19) ∧ onC n ce (20 * Y + X) = false) ∨ q = (0, m) ∧ ¬ (((0 ≤ X ∧ X ≤ 19) ∧ 0 ≤ Y ∧ Y ≤ 19) ∧ onC n ce (20 * Y + X) = false)) := by
    intro z0 hz
    unfold ebX11_addCell_36
    rw [hX, hY, w32_id (x := 20 * Y) (by omega) (by omega), w32_id (by omega) (by omega)]
    refine T_vv (T_bdl (Q := fun q => q.2.2.2 = m ∧ ((q.2.1 = 1 ∧ z0 = 1 ∧ onC n ce (20 * Y + X) = false) ∨ q.2.1 = 0 ∧ (z0 = 0 ∨ onC n ce (20 * Y + X) = true)))
      (iter2 (fun z k m' => (0 ≤ k ∧ k ≤ n) ∧ m' = m ∧ ((z = 1 ∧ z0 = 1 ∧ onC k ce (20 * Y + X) = false) ∨ z = 0 ∧ (z0 = 0 ∨ onC k ce (20 * Y + X) = true))) (fun _ k => (n - k).toNat)
        ⟨by omega, rfl, by rcases hz with ⟨e, _⟩ | ⟨e, _⟩ <;> rw [e]; exact Or.inl ⟨rfl, rfl, rfl⟩; exact Or.inr ⟨rfl, Or.inl rfl⟩⟩ (by omega) ?_) ?_)
    · rintro z k m' ⟨hk, rfl, h⟩
      unfold eBX11_addCell_53 ebX11_addCell_53
      simp only
      rw [hn]
      refine T_ck ⟨by omega, by omega⟩ (T_if (fun q => T_out (by decide) ⟨rfl, ?_⟩) (fun q => ?_))
      · rw [show k = n by omega] at h
        exact h
      · have no : (z0 = 0 ∨ onC (k + 1) ce (20 * Y + X) = true) → T (ebX11_addCell_88 g l (20 * Y + X) k m') (G (fun q => (fun (z k : Int) (m'' : Mem) => (0 ≤ k ∧ k ≤ n) ∧ m'' = m' ∧ ((z = 1 ∧ z0 = 1 ∧ onC k ce (20 * Y + X) = false) ∨ z = 0 ∧ (z0 = 0 ∨ onC k ce (20 * Y + X) = true))) q.1 q.2.1 q.2.2) (fun q => (fun (_ k : Int) => (n - k).toNat) q.1 q.2.1) ((fun (_ k : Int) => (n - k).toNat) z k) (fun q => q.2.2.2 = m' ∧ ((q.2.1 = 1 ∧ z0 = 1 ∧ onC n ce (20 * Y + X) = false) ∨ q.2.1 = 0 ∧ (z0 = 0 ∨ onC n ce (20 * Y + X) = true)))) := by
          intro hh
          unfold ebX11_addCell_88 ebX11_addCell_89
          rw [w32_id (by omega) (by omega)]
          exact T_vv (T_go ⟨⟨by simp only; omega, by simp only; omega⟩, rfl, Or.inr ⟨rfl, hh⟩⟩ (by simp only; omega))
        refine T_if (fun hz0 => no ?_) (fun hz0 => ?_)
        · rcases h with ⟨e, _⟩ | ⟨_, e | e⟩
          · omega
          · exact Or.inl e
          · right; rw [onC_n (by omega), e, Bool.true_or]
        · have h1 := h.resolve_right (fun q => hz0 q.1)
          rw [w32_id (x := 60 * (l : Int)) (by omega) (by omega), w32_id (by omega) (by omega)]
          refine T_ck ⟨by omega, by omega⟩ ?_
          rw [hc k (by omega) (by omega)]
          refine T_if (fun he => no ?_) (fun he => ?_)
          · right; rw [onC_n (by omega), decide_eq_true he, Bool.or_true]
          · unfold ebX11_addCell_89
            rw [w32_id (by omega) (by omega)]
            refine T_vv (T_go ⟨⟨by simp only; omega, by simp only; omega⟩, rfl, Or.inl ⟨rfl, h1.2.1, ?_⟩⟩ (by simp only; omega))
            simp only
            rw [onC_n (by omega), h1.2.2, decide_eq_false he]; rfl
    · rintro c ⟨z, k, m'⟩ ⟨e, h⟩
      dsimp only at e h ⊢
      subst e
      unfold ebX11_addCell_96 ebX11_addCell_127
      rcases h with ⟨e, e0, ho⟩ | ⟨e, ho⟩
      · subst e
        rw [hn, w32_id (x := 60 * (l : Int)) (by omega) (by omega), w32_id (by omega) (by omega)]
        refine T_ie (by decide) (T_ck ⟨by omega, by omega⟩ (T_ck ⟨by omega, by omega⟩ (T_vm (T_ck ⟨by omega, by omega⟩ (T_ck ⟨by omega, by omega⟩ ?_)))))
        rw [ms_x (by decide), hn, w32_id (by omega) (by omega)]
        refine T_vm (T_ck (by decide) (T_some (Or.inl ⟨rfl, ?_, ho⟩)))
        rcases hz with ⟨_, q⟩ | ⟨q, _⟩
        · exact q
        · omega
      · subst e
        refine T_it rfl (T_ck (by decide) (T_some (Or.inr ⟨rfl, fun q => ?_⟩)))
        rcases ho with e | e
        · rcases hz with ⟨q1, _⟩ | ⟨_, q1⟩
          · omega
          · exact q1 q.1
        · rw [q.2] at e; exact absurd e (by decide)
  unfold eX11_addCell ebX11_addCell_0 ebX11_addCell_35
  rw [h10, hX]
  refine T_vv (T_bd2 tX11_in ?_)
  intro r1 m1 e
  cases e
  by_cases h1 : 0 ≤ X ∧ X ≤ 19
  · rw [if_pos h1, hY]
    refine T_ie (by decide) (T_bd2 tX11_in ?_)
    intro r2 m2 e
    cases e
    by_cases h2 : 0 ≤ Y ∧ Y ≤ 19
    · rw [if_pos h2]
      exact T_ie (by decide) (main 1 (Or.inl ⟨rfl, h1, h2⟩))
    · rw [if_neg h2]
      exact T_it rfl (main 0 (Or.inr ⟨rfl, fun q => h2 q.2⟩))
  · rw [if_neg h1]
    exact T_it rfl (main 0 (Or.inr ⟨rfl, fun q => h1 q.1⟩))
def PtR (m : Mem) (l : Nat) (q : Pt) : Prop := m 241 15 = q.1 ∧ m 241 16 = q.2.1 ∧ m 241 17 = (if q.2.2.1 = 0 then 1 else 0) ∧ m 250 l = q.2.2.1 ∧ ∀ k, 0 ≤ k → k < q.2.2.1 → m 251 (60 * l + k) = q.2.2.2 k
/-- what a run leaves as it is -/
def RFr (l : Nat) (m m' : Mem) : Prop := (∀ b, b ≠ 15 → b ≠ 16 → b ≠ 17 → b ≠ 18 → m' 241 b = m 241 b) ∧ (∀ x, x ≠ 241 → x ≠ 248 → x ≠ 249 → x ≠ 250 → x ≠ 251 → m' x = m x) ∧ (∀ i : Int, i ≠ l → m' 248 i = m 248 i ∧ m' 250 i = m 250 i) ∧ (∀ j : Int, (j < 5 * l ∨ 5 * l + 5 ≤ j) → m' 249 j = m 249 j) ∧ ∀ j : Int, (j < 60 * l ∨ 60 * l + 60 ≤ j) → m' 251 j = m 251 j
theorem RFr.rf (l : Nat) (m : Mem) : RFr l m m := ⟨fun _ _ _ _ _ => rfl, fun _ _ _ _ _ _ => rfl, fun _ _ => ⟨rfl, rfl⟩, fun _ _ => rfl, fun _ _ => rfl⟩
theorem RFr.tr {l : Nat} {m m' m'' : Mem} (h : RFr l m m') (h2 : RFr l m' m'') : RFr l m m'' :=
  ⟨fun b a1 a2 a3 a4 => (h2.1 b a1 a2 a3 a4).trans (h.1 b a1 a2 a3 a4), fun x a1 a2 a3 a4 a5 => (h2.2.1 x a1 a2 a3 a4 a5).trans (h.2.1 x a1 a2 a3 a4 a5), fun i hi => ⟨(h2.2.2.1 i hi).1.trans (h.2.2.1 i hi).1, (h2.2.2.1 i hi).2.trans (h.2.2.1 i hi).2⟩, fun j hj => (h2.2.2.2.1 j hj).trans (h.2.2.2.1 j hj), fun j hj => (h2.2.2.2.2 j hj).trans (h.2.2.2.2 j hj)⟩
def grQ (m : Mem) (dx dy n : Int) (l : Nat) (q : Pt) (r : Int × (Int × Mem)) : Prop :=
  (RFr l m r.2.2 ∧ r.2.2 241 18 = m 241 18 ∧ r.2.2 248 = m 248 ∧ r.2.2 249 = m 249) ∧ ((r.1 = 2 ∧ ptAll dx dy n.toNat q ∧ PtR r.2.2 l (ptGo dx dy n.toNat q)) ∨ r.1 = 1 ∧ ¬ ptAll dx dy n.toNat q)
theorem tX11_goRun_loop {g : Shp} {m : Mem} {c n : Int} {l : Nat} {q : Pt} (hl : l < 3) (h10 : m 241 10 = l) (hw : WPt q) (hn : 0 ≤ n ∧ n ≤ 12 ∧ q.2.2.1 ≤ 48) (hp : PtR m l q) :
    T (iter (eBX11_goRun_102 g c n l) 100000 (0, m)) (grQ m (wX c) (wY c) n l q) := by
  have hdx : (-1 ≤ wX c ∧ wX c ≤ 1) ∧ -1 ≤ wY c ∧ wY c ≤ 1 := by
    unfold wX wY
    constructor
    · split
      · decide
      · split <;> decide
    · split
      · decide
      · split <;> decide
  generalize hx : wX c = dx at *
  generalize hy : wY c = dy at *
  refine iter1 (fun k m' => (0 ≤ k ∧ k ≤ n) ∧ ptAll dx dy k.toNat q ∧ PtR m' l (ptGo dx dy k.toNat q) ∧ RFr l m m' ∧ m' 241 18 = m 241 18 ∧ m' 248 = m 248 ∧ m' 249 = m 249) (fun k => (n - k).toNat) ⟨⟨by omega, by omega⟩, fun j hj => absurd hj (by simp), hp, RFr.rf l m, rfl, rfl, rfl⟩ (by omega) ?_
  rintro k m' ⟨hk, ha, ⟨c1, c2, c3, c4, c5⟩, h6, h18, h248, h249⟩
  have hq := ptGo_w hw k.toNat ha
  have en := ptGo_n (dx := dx) (dy := dy) (q := q) k.toNat
  have e1 : (ptGo dx dy (k.toNat + 1) q) = ptNx dx dy (ptGo dx dy k.toNat q) := rfl
  have es : (k + 1).toNat = k.toNat + 1 := by omega
  have hq0 := hq.2.2
  have hq1 := hq.1
  have hq2 := hq.2.1
  have hw0 := hw.2.2
  have bad : k < n → ¬ ptOk dx dy (ptGo dx dy k.toNat q) → ¬ ptAll dx dy n.toNat q := fun hk h hx => h (hx k.toNat (by omega))
  generalize hQ : ptGo dx dy k.toNat q = Q at *
  have hbX : -1 ≤ ptX dx Q ∧ ptX dx Q ≤ 20 := by unfold ptX; split <;> omega
  have hbY : -1 ≤ ptY dy Q ∧ ptY dy Q ≤ 20 := by unfold ptY; split <;> omega
  have last : k < n → ∀ (m1 : Mem) (z1 z2 : Int), m1 = ms m' 241 15 (ptX dx Q) → z1 + z2 = ptY dy Q → T (ebX11_goRun_186 g c n l k z1 z2 m1) (G (fun s => (fun (k : Int) (m' : Mem) => (0 ≤ k ∧ k ≤ n) ∧ ptAll dx dy k.toNat q ∧ PtR m' l (ptGo dx dy k.toNat q) ∧ RFr l m m' ∧ m' 241 18 = m 241 18 ∧ m' 248 = m 248 ∧ m' 249 = m 249) s.1 s.2) (fun s => (fun k => (n - k).toNat) s.1) ((fun k => (n - k).toNat) k) (grQ m dx dy n l q)) := by
    intro hkn m1 z1 z2 em1 ez
    unfold ebX11_goRun_186
    rw [ez, w32_id (by omega) (by omega)]
    refine T_vm' (fun m2 em2 => T_vm' (fun m3 em3 => ?_))
    have f3 : ∀ x, x ≠ 241 → m3 x = m' x := fun x hx => by rw [em3, ms_f hx, em2, ms_f hx, em1, ms_f hx]
    have f2 : ∀ b, b ≠ 15 → b ≠ 16 → b ≠ 17 → m3 241 b = m' 241 b := fun b b1 b2 b3 => by rw [em3, ms_y b3, em2, ms_y b2, em1, ms_y b1]
    have hfr : RFr l m m3 := h6.tr ⟨fun b b1 b2 b3 _ => f2 b b1 b2 b3, fun x x1 _ _ _ _ => f3 x x1, fun i _ => ⟨by rw [f3 248 (by decide)], by rw [f3 250 (by decide)]⟩, fun j _ => by rw [f3 249 (by decide)], fun j _ => by rw [f3 251 (by decide)]⟩
    have x15 : m3 241 15 = ptX dx Q := by rw [em3, ms_y (by decide), em2, ms_y (by decide), em1, ms_at]
    have x16 : m3 241 16 = ptY dy Q := by rw [em3, ms_y (by decide), em2, ms_at]
    have x17 : m3 241 17 = 0 := by rw [em3, ms_at]
    have x18 : m3 241 18 = m 241 18 := by rw [f2 18 (by decide) (by decide) (by decide)]; exact h18
    refine T_bd2 (tX11_addCell (ce := Q.2.2.2) (n := Q.2.2.1) hl (by rw [hfr.1 10 (by decide) (by decide) (by decide) (by decide)]; exact h10) x15 x16 ⟨hbX, hbY⟩ (by rw [f3 250 (by decide)]; exact c4) ⟨by omega, by omega⟩ (fun j j0 j1 => by rw [f3 251 (by decide)]; exact c5 j j0 j1)) ?_
    rintro r m4 (⟨e, hin, hon⟩ | ⟨e, hno⟩)
    · obtain ⟨er, em4⟩ := Prod.mk.inj e
      subst er
      refine T_ie (by decide) ?_
      rw [w32_id (by omega) (by omega)]
      have g1 : ∀ x, x ≠ 250 → x ≠ 251 → m4 x = m3 x := fun x a b => by rw [em4, ms_f a, ms_f b]
      refine T_vv (T_go ⟨⟨by simp only; omega, by simp only; omega⟩, ?_, ?_, ?_, ?_, ?_, ?_⟩ (by simp only; omega))
      · simp only [es]
        exact ptAll_s ha (by rw [hQ]; exact ⟨hin, hon⟩)
      · simp only [es, e1]
        refine ⟨?_, ?_, ?_, ?_, ?_⟩
        · rw [g1 241 (by decide) (by decide)]; exact x15
        · rw [g1 241 (by decide) (by decide)]; exact x16
        · rw [g1 241 (by decide) (by decide), if_neg (by show ¬ Q.2.2.1 + 1 = 0; omega)]; exact x17
        · rw [em4, ms_at]; rfl
        · intro j j0 j1
          have j1' : j < Q.2.2.1 + 1 := j1
          rw [em4, ms_x (by decide)]
          show _ = up Q.2.2.2 Q.2.2.1 (20 * ptY dy Q + ptX dx Q) j
          by_cases ej : j = Q.2.2.1
          · rw [ej, ms_at, up_at]
          · rw [ms_y (by omega), f3 251 (by decide), up_ne ej]; exact c5 j j0 (by omega)
      · simp only
        refine hfr.tr ⟨fun b _ _ _ _ => by rw [g1 241 (by decide) (by decide)], fun x _ _ _ a b => g1 x a b, fun i hi => ⟨by rw [g1 248 (by decide) (by decide)], by rw [em4, ms_y hi, ms_x (by decide)]⟩, fun j _ => by rw [g1 249 (by decide) (by decide)], fun j hj => by rw [em4, ms_x (by decide), ms_y (by omega)]⟩
      · simp only
        rw [g1 241 (by decide) (by decide)]; exact x18
      · simp only
        rw [g1 248 (by decide) (by decide), f3 248 (by decide)]; exact h248
      · simp only
        rw [g1 249 (by decide) (by decide), f3 249 (by decide)]; exact h249
    · obtain ⟨er, em4⟩ := Prod.mk.inj e
      subst er
      subst em4
      exact T_it rfl (T_out (by decide) ⟨⟨hfr, x18, by show m4 248 = m 248; rw [f3 248 (by decide)]; exact h248, by show m4 249 = m 249; rw [f3 249 (by decide)]; exact h249⟩, Or.inr ⟨rfl, bad hkn (fun h => hno h)⟩⟩)
  have mid : k < n → ∀ z1 z2 : Int, z1 + z2 = ptX dx Q → T (ebX11_goRun_145 g c n l k z1 z2 m') (G (fun s => (fun (k : Int) (m' : Mem) => (0 ≤ k ∧ k ≤ n) ∧ ptAll dx dy k.toNat q ∧ PtR m' l (ptGo dx dy k.toNat q) ∧ RFr l m m' ∧ m' 241 18 = m 241 18 ∧ m' 248 = m 248 ∧ m' 249 = m 249) s.1 s.2) (fun s => (fun k => (n - k).toNat) s.1) ((fun k => (n - k).toNat) k) (grQ m dx dy n l q)) := by
    intro hkn z1 z2 ez
    unfold ebX11_goRun_145
    rw [ez, w32_id (by omega) (by omega)]
    refine T_vm' (fun m1 em1 => ?_)
    rw [show m1 241 17 = (if Q.2.2.1 = 0 then 1 else 0) by rw [em1, ms_y (by decide)]; exact c3, show m1 241 16 = Q.2.1 by rw [em1, ms_y (by decide)]; exact c2]
    by_cases h0 : Q.2.2.1 = 0
    · rw [if_pos h0]
      exact T_ie (by decide) (last hkn m1 _ _ em1 (by unfold ptY; rw [if_neg (by omega)]; omega))
    · rw [if_neg h0]
      refine T_it rfl (T_if (fun hc => last hkn m1 _ _ em1 ?_) (fun hc => T_if (fun hd => last hkn m1 _ _ em1 ?_) (fun hd => last hkn m1 _ _ em1 ?_)))
      · unfold ptY; rw [if_pos (by omega), ← hy]; unfold wY; rw [if_pos hc]
      · unfold ptY; rw [if_pos (by omega), ← hy]; unfold wY; rw [if_neg hc, if_pos hd]
      · unfold ptY; rw [if_pos (by omega), ← hy]; unfold wY; rw [if_neg hc, if_neg hd]
  unfold eBX11_goRun_102 ebX11_goRun_102
  simp only
  refine T_if (fun hc => T_out (by decide) ⟨⟨h6, h18, h248, h249⟩, Or.inl ⟨rfl, ?_, ?_⟩⟩) (fun hc => ?_)
  · rw [show n = k by omega]; exact ha
  · rw [show n = k by omega, hQ]; exact ⟨c1, c2, c3, c4, c5⟩
  · rw [c3, c1]
    by_cases h0 : Q.2.2.1 = 0
    · rw [if_pos h0]
      exact T_ie (by decide) (mid (by omega) _ _ (by unfold ptX; rw [if_neg (by omega)]; omega))
    · rw [if_neg h0]
      refine T_it rfl (T_if (fun hc => mid (by omega) _ _ ?_) (fun hc => T_if (fun hd => mid (by omega) _ _ ?_) (fun hd => mid (by omega) _ _ ?_)))
      · unfold ptX; rw [if_pos (by omega), ← hx]; unfold wX; rw [if_pos hc]
      · unfold ptX; rw [if_pos (by omega), ← hx]; unfold wX; rw [if_neg hc, if_pos hd]
      · unfold ptX; rw [if_pos (by omega), ← hx]; unfold wX; rw [if_neg hc, if_neg hd]
