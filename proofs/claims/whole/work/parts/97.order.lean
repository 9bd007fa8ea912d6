/-! ===== order: the program's answer ===== -/
def ansO (k : Int) (acc : Ac) : Int := match acc with
  | none => -4
  | some q => if k = -1 then q.1 else if (q.2.length : Int) ≤ k then -4 else q.2.getD k.toNat 0
def csF (x y z : Int) : Int → Int := fun i => if i = 0 then x else if i = 1 then y else z
theorem csF_r {x y z : Int} (hx : 0 ≤ x ∧ x ≤ 2) (hy : 0 ≤ y ∧ y ≤ 2) (hz : 0 ≤ z ∧ z ≤ 2) : ∀ i, 0 ≤ i → i < 3 → 0 ≤ csF x y z i ∧ csF x y z i ≤ 2 := by
  intro i _ _
  unfold csF
  split
  · exact hx
  · split
    · exact hy
    · exact hz
theorem vT_cs {d : Dt} {cs cs' : Int → Int} (h : ∀ i, 0 ≤ i → i < 3 → cs i = cs' i) : ∀ (ts : List Int) (R : Int → Int), (∀ t, t ∈ ts → 0 ≤ t ∧ t < 3) → vT d cs ts R = vT d cs' ts R
  | [], _, _ => rfl
  | t :: ts, R, ht => by
    have h1 := ht t (List.mem_cons_self ..)
    unfold vT
    rw [h t h1.1 h1.2, vT_cs h ts _ (fun t' ht' => ht t' (List.mem_cons_of_mem _ ht'))]
theorem bO_cs {d : Dt} {R cs cs' : Int → Int} (h : ∀ i, 0 ≤ i → i < 3 → cs i = cs' i) : bO d R cs = bO d R cs' := by
  unfold bO
  refine fb_c _ _ (fun ts hts => vT_cs h ts R (fun t ht => ?_))
  exact uo_r (pm_in 3 _ ts hts t ht)
theorem bO_len {d : Dt} {R cs : Int → Int} {q : Int × List Int} (h : bO d R cs = some q) : q.2 ∈ pm 3 (uR d R) := by
  have key : ∀ (L : List (List Int)) (acc : Ac) (q : Int × List Int), fb (fun ts => vT d cs ts R) L acc = some q → q.2 ∈ L ∨ acc = some q := by
    intro L
    induction L with
    | nil => intro acc q h; exact Or.inr h
    | cons ts L ih =>
      intro acc q h
      rcases ih _ q h with e | e
      · exact Or.inl (List.mem_cons_of_mem _ e)
      · unfold fs1 at e
        cases acc with
        | none =>
          dsimp only at e
          split at e
          · left; rw [← Option.some.inj e]; exact List.mem_cons_self ..
          · exact absurd e (by simp)
        | some p =>
          dsimp only at e
          split at e
          · left; rw [← Option.some.inj e]; exact List.mem_cons_self ..
          · exact Or.inr e
  exact (key _ _ q h).resolve_right (by simp)
theorem pm_len : ∀ (a b c : Bool), ∀ ts ∈ pm 3 (a, b, c), ts.length = uc (a, b, c) := by decide +kernel
theorem uc_3 : ∀ (a b c : Bool), uc (a, b, c) ≤ 3 := by decide +kernel
theorem ord_ans {g : Shp} {m : Mem} {k : Int} {acc : Ac} (hk : -1 ≤ k ∧ k < 3) (h : OA m acc) : T (ebX10_order_68 k g m) (fun r => r.1 = ansO k acc ∧ r.2.1 = g ∧ r.2.2 = m) := by
  unfold ebX10_order_68 ebX10_order_122 ansO
  unfold OA at h
  cases acc with
  | none =>
    dsimp only at h ⊢
    rw [h]
    exact T_it rfl (T_some ⟨rfl, rfl, rfl⟩)
  | some q =>
    dsimp only at h ⊢
    obtain ⟨h1, h2, h3, h4⟩ := h
    rw [h1, h2, h3]
    refine T_ie (by decide) (T_if (fun c => T_some ⟨by rw [if_pos c], rfl, rfl⟩) (fun c => T_if (fun c2 => T_some ⟨by rw [if_neg c, if_pos c2], rfl, rfl⟩) (fun c2 => T_ck ⟨by omega, by omega⟩ (T_some ⟨?_, rfl, rfl⟩))))
    dsimp only
    have := h4 k.toNat (by omega)
    rw [show ((k.toNat : Nat) : Int) = k by omega] at this
    rw [if_neg c, if_neg c2]; exact this
theorem ord_cls {g : Shp} {m : Mem} {x y z k : Int} (hS : Sh g m) (hG : gOk g) (h : Inv g m) (hx : 0 ≤ x ∧ x ≤ 2) (hy : 0 ≤ y ∧ y ≤ 2) (hz : 0 ≤ z ∧ z ≤ 2) (hk : -1 ≤ k ∧ k < 3) :
    T (bd2 (eX3_isFor g x y z m) fun v16 m17 => if v16 = 0 then bd2 (eX3_begin g x y z m17) fun v21 m22 => bd3 (eX10_searchOrders 5 0 85 0 g m22) fun v25 g26 m27 => ebX10_order_68 k g26 m27 else ebX10_order_68 k g m17)
      (fun r => r.1 = ansO k (bO (dt m) (m 242) (csF x y z)) ∧ Inv r.2.1 r.2.2 ∧ (Sh r.2.1 r.2.2 ∧ gOk r.2.1) ∧ ∀ a, 241 ≤ a → a ≤ 267 → r.2.2 a = m a) := by
  obtain ⟨h1, h2, h3, h4, h5, h6⟩ := id h
  have hd := h1.2.1
  have hl := hd.1
  have hs : (m 1 6 = 177 ∧ m 1 7 = 191) ∨ (m 1 6 = 191 ∧ m 1 7 = 177) := h1.2.2.1
  have hfor : T (eX3_isFor g x y z m) (fun q => q.2 = m ∧ ((q.1 = 1 ∧ m 143 8 ≠ 0 ∧ ∀ i, 0 ≤ i → i < 3 → m 144 i = csF x y z i) ∨ q.1 = 0)) := by
    unfold eX3_isFor ebX3_isFor_0 ebX3_isFor_41 ebX3_isFor_42
    refine T_if (fun c => T_ck (by decide) (T_some ⟨rfl, Or.inr rfl⟩)) (fun c => T_ck (by decide) (T_if (fun c1 => T_ck (by decide) (T_if (fun c2 => T_ck (by decide) (T_if (fun c3 => T_ck (by decide) (T_some ⟨rfl, Or.inl ⟨rfl, c, fun i a b => ?_⟩⟩)) (fun c3 => T_ck (by decide) (T_some ⟨rfl, Or.inr rfl⟩)))) (fun c2 => T_ck (by decide) (T_some ⟨rfl, Or.inr rfl⟩)))) (fun c1 => T_ck (by decide) (T_some ⟨rfl, Or.inr rfl⟩))))
    unfold csF
    rcases (show i = 0 ∨ i = 1 ∨ i = 2 by omega) with q | q | q <;> subst q
    · rw [if_pos rfl]; exact c1
    · rw [if_neg (by decide), if_pos rfl]; exact c2
    · rw [if_neg (by decide), if_neg (by decide)]; exact c3
  refine T_bd2 hfor ?_
  rintro r1 m1 ⟨e1, u⟩
  dsimp only at e1 u
  subst e1
  rcases u with ⟨u1, u2, u3⟩ | u1
  · subst u1
    refine T_ie (by decide) ?_
    have hO := h5.resolve_left u2
    refine T_mono (ord_ans hk hO.2) ?_
    rintro r ⟨a1, a2, a3⟩
    refine ⟨by rw [a1, bO_cs u3], by rw [a2, a3]; exact h, by rw [a2, a3]; exact ⟨hS, hG⟩, fun a _ _ => by rw [a3]⟩
  · subst u1
    refine T_it rfl (T_bd2 (T_eq (P := fun q => (∀ i, 0 ≤ i → i < 3 → q.2 144 i = csF x y z i) ∧ q.2 143 7 = 0 ∧ q.2 143 8 = 1 ∧ ∀ a, a ≠ 143 → a ≠ 144 → q.2 a = m1 a) ?_) ?_)
    · unfold eX3_begin ebX3_begin_0
      refine T_ck (by decide) (T_vm' (fun m2 e2 => T_ck (by decide) (T_vm' (fun m3 e3 => T_ck (by decide) (T_vm' (fun m4 e4 => T_vm' (fun m5 e5 => T_vm' (fun m6 e6 => T_vm' (fun m7 e7 => T_vm' (fun m8 e8 => T_some ⟨fun i a b => ?_, ?_, ?_, fun a a1 a2 => ?_⟩))))))))))
      · dsimp only
        rw [e8, ms_x (by decide), e7, ms_x (by decide), e6, ms_x (by decide), e5, ms_x (by decide), e4]
        unfold csF
        rcases (show i = 0 ∨ i = 1 ∨ i = 2 by omega) with q | q | q <;> subst q
        · rw [if_pos rfl, ms_y (by decide), e3, ms_y (by decide), e2, ms_at]
        · rw [if_neg (by decide), if_pos rfl, ms_y (by decide), e3, ms_at]
        · rw [if_neg (by decide), if_neg (by decide), ms_at]
      · dsimp only; rw [e8, ms_y (by decide), e7, ms_at]
      · dsimp only; rw [e8, ms_at]
      · dsimp only; rw [e8, ms_f a1, e7, ms_f a1, e6, ms_f a1, e5, ms_f a1, e4, ms_f a2, e3, ms_f a2, e2, ms_f a2]
    · rintro r2 m2 ⟨e2, b1, b2, b3, b4⟩
      dsimp only at b1 b2 b3 b4
      have hS2 := nX3_begin hS e2
      have hdt2 : dt m2 = dt m1 := dt_c (by rw [b4 241 (by decide) (by decide)]) (fun a a1 a2 => b4 a (by omega) (by omega))
      have hcs := csF_r hx hy hz
      have hX : Cx g m2 (dt m1) (csF x y z) := by
        refine ⟨⟨hS2, hG⟩, ?_, h3.c (by rw [b4 5 (by decide) (by decide)]) (fun a ha => b4 a (by omega) (by omega)), fun k a b => by rw [b4 147 (by decide) (by decide)]; exact h6 k a b, ⟨hdt2, hd, by rw [b4 1 (by decide) (by decide)]; omega, ?_⟩, b1⟩
        · unfold RmOk
          rw [b4 5 (by decide) (by decide)]
          exact h2
        · rw [b4 1 (by decide) (by decide)]
          exact h1.2.2.2.1.c hl.2 (fun a a1 a2 => b4 a (by omega) (by omega))
      have hrow : RowEq (rowC m2 (flA 0)) (m1 242) := by
        show RowEq (rowC m2 85) (m1 242)
        rw [rowC_c (m := m1) (fun a a1 a2 => b4 a (by omega) (by omega))]
        exact h1.2.2.2.2.1.1
      have hsr := tX10_search hcs 3 0 rfl 5 (by decide) g m2 (m1 242) 0 [] none hX hrow h1.2.2.2.2.1.2 (uc_3 _ _ _) (by decide) rfl (fun j hj => by omega) b2 (fun q hq => absurd hq (by simp))
      refine T_bd3 hsr ?_
      rintro r3 g3 m3 ⟨c1, c2, c3⟩
      dsimp only at c1 c2 c3
      have hval : fg (fun ts => pl (vT (dt m1) (csF x y z) ts (m1 242)) 0) [] (pm 3 (uR (dt m1) (m1 242))) none = bO (dt m1) (m1 242) (csF x y z) := by
        rw [fg_nil]
        unfold bO
        refine fb_c _ _ (fun ts _ => ?_)
        unfold pl
        split
        · rename_i q; exact q.symm
        · omega
      rw [hval] at c3
      have fm : ∀ a, a ≤ 267 → (a < 5 ∨ 84 < a) → (a < 143 ∨ 175 < a) → m3 a = m1 a := fun a a1 a2 a3 => by rw [c2.1 a a1 a2 (by omega), b4 a (by omega) (by omega)]
      obtain ⟨hC, hdt⟩ := Core.f h1 (fun a a1 a2 a3 a4 => fm a a1 a2 a3)
      have e242 : m3 242 = m1 242 := fm 242 (by decide) (by decide) (by decide)
      have e144 : m3 144 = m2 144 := c2.1 144 (by decide) (by decide) (by decide)
      have hInv : Inv g3 m3 := by
        refine ⟨hC, c1.2.1, c1.2.2.1, fun i c i0 i1 c0 c1' => ?_, Or.inr ⟨fun i a b => by rw [e144, b1 i a b]; exact hcs i a b, ?_⟩, c1.2.2.2.1⟩
        · have hwr := wyA_r (i := i) (c := c) ⟨i0, i1⟩ ⟨c0, c1'⟩
          rw [hdt, e242, fm _ (by omega) (by omega) (by omega)]
          rcases h4 i c i0 i1 c0 c1' with q | ⟨q1, q2⟩
          · exact Or.inl q
          · exact Or.inr ⟨q1, WayR_c (hd.2.2 i i0 q1) (RowEq.rf _) ⟨c0, c1'⟩ (fun a a1 a2 => fm a (by omega) (by omega) (by omega)) q2⟩
        · unfold OrdR
          rw [hdt, e242, e144, bO_cs b1]
          exact c3
      refine T_mono (ord_ans hk c3) ?_
      rintro r ⟨a1, a2, a3⟩
      exact ⟨a1, by rw [a2, a3]; exact hInv, by rw [a2, a3]; exact c1.1, fun a q1 q2 => by rw [a3]; exact fm a q2 (by omega) (by omega)⟩
