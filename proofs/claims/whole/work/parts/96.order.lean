theorem getD_l : ∀ (pre : List Int) (i : Int) (j : Nat), j < pre.length → (pre ++ [i]).getD j 0 = pre.getD j 0
  | [], _, _, h => absurd h (by simp)
  | _ :: _, _, 0, _ => rfl
  | _ :: pre, i, j + 1, h => getD_l pre i j (by simpa using h)
theorem getD_r : ∀ (pre : List Int) (i : Int), (pre ++ [i]).getD pre.length 0 = i
  | [], _ => rfl
  | _ :: pre, i => getD_r pre i
theorem flA_k {g : Shp} {m : Mem} (hS : Sh g m) {n : Int} (hn : 0 ≤ n ∧ n ≤ 3) : gk g (flA n) = 2 ∧ gl g (flA n + 1) = 400 := by
  have h : gk g (flA n) = 2 := by
    unfold flA
    rcases (show n = 0 ∨ n = 1 ∨ n = 2 ∨ n = 3 by omega) with q | q | q | q <;> subst q
    · exact (hS.1 (85, 2, 0) (by decide)).1
    · exact (hS.1 (152, 2, 0) (by decide)).1
    · exact (hS.1 (160, 2, 0) (by decide)).1
    · exact (hS.1 (168, 2, 0) (by decide)).1
  exact ⟨h, ((hS.2.2.2 (flA n)).1 h).1.2.2⟩
theorem sh_p {g : Shp} {m : Mem} (hS : Sh g m) {P i : Int} (hP : P = 177 ∨ P = 191) (hi : 0 ≤ i ∧ i < 3) : gk g (P + 5 + 3 * i) = 6 ∧ gk g (P + 1) = 20 := by
  rcases hP with q | q <;> subst q <;> rcases (show i = 0 ∨ i = 1 ∨ i = 2 by omega) with q | q | q <;> subst q
  · exact ⟨(hS.1 (182, 6, 0) (by decide)).1, (hS.1 (178, 20, 3) (by decide)).1⟩
  · exact ⟨(hS.1 (185, 6, 0) (by decide)).1, (hS.1 (178, 20, 3) (by decide)).1⟩
  · exact ⟨(hS.1 (188, 6, 0) (by decide)).1, (hS.1 (178, 20, 3) (by decide)).1⟩
  · exact ⟨(hS.1 (196, 6, 0) (by decide)).1, (hS.1 (192, 20, 3) (by decide)).1⟩
  · exact ⟨(hS.1 (199, 6, 0) (by decide)).1, (hS.1 (192, 20, 3) (by decide)).1⟩
  · exact ⟨(hS.1 (202, 6, 0) (by decide)).1, (hS.1 (192, 20, 3) (by decide)).1⟩
theorem Cx.c {g : Shp} {m m' : Mem} {d : Dt} {cs : Int → Int} (h : Cx g m d cs) (hS : Sh g m') (hf : ∀ a, a ≤ 267 → (a < 143 ∨ a = 144 ∨ a = 147 ∨ 175 < a) → m' a = m a) : Cx g m' d cs := by
  obtain ⟨⟨h1, h2⟩, h3, h4, h5, ⟨h6, h7, h8, h9⟩, h10⟩ := h
  refine ⟨⟨hS, h2⟩, ?_, h4.c (by rw [hf 5 (by decide) (by decide)]) (fun a ha => hf a (by omega) (by omega)), fun k a b => by rw [hf 147 (by decide) (by decide)]; exact h5 k a b, ⟨?_, h7, ?_, ?_⟩, fun i a b => by rw [hf 144 (by decide) (by decide)]; exact h10 i a b⟩
  · unfold RmOk
    rw [hf 5 (by decide) (by decide)]
    exact h3
  · rw [← h6]
    exact dt_c (by rw [hf 241 (by decide) (by decide)]) (fun a a1 a2 => hf a (by omega) (by omega))
  · rw [hf 1 (by decide) (by decide)]; exact h8
  · rw [hf 1 (by decide) (by decide)]
    exact h9.c h7.1.2 (fun a a1 a2 => hf a (by omega) (by omega))
theorem tX3_keepTrial {g : Shp} {m : Mem} {n : Nat} {c : Int} {pre : List Int} (hn : n ≤ 3) (hp : pre.length = n) (h : ∀ j : Nat, j < n → m 145 j = pre.getD j 0) : T (eX3_keepTrial g n c m) (fun r => OA r.2 (some (c, pre)) ∧ (∀ b, b ≠ 5 → b ≠ 6 → b ≠ 7 → r.2 143 b = m 143 b) ∧ ∀ a, a ≠ 143 → a ≠ 146 → r.2 a = m a) := by
  unfold eX3_keepTrial ebX3_keepTrial_0
  refine T_ck ⟨by decide, by decide, by omega, by omega, by omega⟩ (T_vm' (fun m1 e1 => T_vm' (fun m2 e2 => T_vm' (fun m3 e3 => T_vm' (fun m4 e4 => T_some ⟨⟨?_, ?_, ?_, fun k hk => ?_⟩, fun b b1 b2 b3 => ?_, fun a a1 a2 => ?_⟩)))))
  · dsimp only; rw [e4, ms_at]
  · dsimp only; rw [e4, ms_y (by decide), e3, ms_at]
  · dsimp only; rw [e4, ms_y (by decide), e3, ms_y (by decide), e2, ms_at, hp]
  · dsimp only at hk ⊢
    rw [e4, ms_x (by decide), e3, ms_x (by decide), e2, ms_x (by decide), e1, mcp_in (by omega) (by omega), show (0 : Int) + ((k : Int) - 0) = k by omega]
    exact h k (by omega)
  · dsimp only; rw [e4, ms_y b3, e3, ms_y b2, e2, ms_y b1, e1, mcp_x (by decide)]
  · dsimp only; rw [e4, ms_f a1, e3, ms_f a1, e2, ms_f a1, e1, mcp_f a2]
theorem search_end {g : Shp} {m : Mem} {d : Dt} {cs : Int → Int} {er : Int → Int → Int → Shp → Mem → Option (Int × Shp × Mem)} {n : Nat} {c : Int} {pre : List Int} {acc : Ac} (hn : n ≤ 3) (hX : Cx g m d cs) (hc : 0 ≤ c ∧ c ≤ 1000) (hp : pre.length = n) (h145 : ∀ j : Nat, j < n → m 145 j = pre.getD j 0) (hO : OA m acc) :
    T (ebX10_searchOrders_196 er n c 0 g m) (fun r => Cx r.2.1 r.2.2 d cs ∧ SoF n m r.2.2 ∧ OA r.2.2 (fs1 c pre acc)) := by
  unfold ebX10_searchOrders_196 ebX10_searchOrders_221
  refine T_it rfl (T_bd2 (tX3_isFewer hO (by omega)) ?_)
  rintro r1 m1 ⟨e1, u⟩
  dsimp only at e1 u
  subst e1
  rcases u with ⟨u1, u2⟩ | ⟨u1, u2⟩
  · subst u1
    refine T_ie (by decide) (T_bd2 (T_eq (tX3_keepTrial hn hp h145)) ?_)
    rintro r2 m2 ⟨e2, v1, v2, v3⟩
    dsimp only at v1 v2 v3
    have hS2 := nX3_keepTrial hX.1.1 e2
    have ef : fs1 c pre acc = some (c, pre) := by
      unfold fs1
      unfold noB at u2
      cases acc with
      | none => dsimp only at u2 ⊢; rw [if_pos (by omega)]
      | some q => dsimp only at u2 ⊢; rw [if_pos (by omega)]
    rw [ef]
    refine T_some ⟨hX.c hS2 (fun a a1 a2 => v3 a (by omega) (by omega)), ⟨fun a a1 a2 a3 => v3 a (by omega) (by omega), fun k hk => by dsimp only; rw [v3 145 (by decide) (by decide)], v2 8 (by decide) (by decide) (by decide)⟩, v1⟩
  · subst u1
    have ef : fs1 c pre acc = acc := by
      unfold fs1
      unfold noB at u2
      cases acc with
      | none => dsimp only at u2 ⊢; rw [if_neg (by omega)]
      | some q => dsimp only at u2 ⊢; rw [if_neg (by omega)]
    rw [ef]
    exact T_it rfl (T_some ⟨hX, SoF.rf n m1, hO⟩)
theorem tX10_search {d : Dt} {cs : Int → Int} (hcs : ∀ i, 0 ≤ i → i < 3 → 0 ≤ cs i ∧ cs i ≤ 2) : ∀ (k n : Nat), n + k = 3 → ∀ (F : Nat), k < F → ∀ (g : Shp) (m : Mem) (S : Int → Int) (c : Int) (pre : List Int) (acc : Ac), Cx g m d cs → RowEq (rowC m (flA n)) S → WRow d S → uc (uR d S) ≤ k → (0 ≤ c ∧ c ≤ 100 * n) → pre.length = n → (∀ j : Nat, j < n → m 145 j = pre.getD j 0) → OA m acc → AcOk acc →
    T (eX10_searchOrders F n (flA n) c g m) (fun r => Cx r.2.1 r.2.2 d cs ∧ SoF n m r.2.2 ∧ OA r.2.2 (fg (fun ts => pl (vT d cs ts S) c) pre (pm k (uR d S)) acc)) := by
  intro k
  induction k with
  | zero =>
    intro n hn F hF g m S c pre acc hX hr hW hu hc hp h145 hO hA
    obtain ⟨F', rfl⟩ : ∃ F', F = F' + 1 := ⟨F - 1, by omega⟩
    show T (ebX10_searchOrders_0 (eX10_searchOrders F') n (flA n) c g m) _
    unfold ebX10_searchOrders_0
    have hd := hX.2.2.2.2.1.2.1
    have hl := hd.1.2
    have hl1 := hd.1.1
    have hnone : ∀ j, uo (uR d S) j = false := by
      intro j
      by_cases q : uo (uR d S) j = true
      · have := uc_s q
        omega
      · rw [Bool.not_eq_true] at q; exact q
    have ePl : m (m 1 6) 5 = dl d := hX.2.2.2.2.1.2.2.2.2.1
    refine T_bdl (Q := fun r => r.2.1 = 0 ∧ r.2.2.2.1 = g ∧ r.2.2.2.2 = m)
      (iter_T (fun s : Int × Int × Shp × Mem => (0 ≤ s.2.1 ∧ s.2.1 ≤ dl d) ∧ s.1 = 0 ∧ s.2.2.1 = g ∧ s.2.2.2 = m) (fun s => (dl d - s.2.1).toNat) ?_ 100000 (0, 0, g, m) ⟨by dsimp only; omega, rfl, rfl, rfl⟩ (by dsimp only; omega)) ?_
    · rintro ⟨o, i, g', m'⟩ ⟨i1, o1, eg, em⟩
      dsimp only at i1 o1 eg em
      subst eg
      subst em
      unfold eBX10_searchOrders_6 ebX10_searchOrders_6 ebX10_searchOrders_190
      dsimp only
      simp only [ePl]
      refine T_if (fun c1 => T_out (by decide) ⟨o1, rfl, rfl⟩) (fun c1 => T_bd2 (tX1_isCovered ⟨i1.1, by omega⟩) ?_)
      intro r2 m2 e2
      cases e2
      rw [hr _ (by omega) (by omega)]
      have hno : S (10 + i) ≠ -4 := fun q => by
        have := (uR_o (d := d) (R := S)).mpr ⟨⟨i1.1, by omega⟩, by omega, q⟩
        rw [hnone i] at this
        exact absurd this (by decide)
      rw [if_neg hno, w32_id (x := i + 1) (by omega) (by omega)]
      exact T_ie (by decide) (T_vv (T_go ⟨by dsimp only; omega, o1, rfl, rfl⟩ (by dsimp only; omega)))
    · rintro cc ⟨o, i, g', m'⟩ ⟨o1, eg, em⟩
      dsimp only at o1 eg em ⊢
      subst eg
      subst em
      subst o1
      refine T_mono (search_end (acc := acc) (by omega) hX ⟨by omega, by omega⟩ hp h145 hO) ?_
      rintro r ⟨u1, u2, u3⟩
      refine ⟨u1, u2, ?_⟩
      have e : fg (fun ts => pl (vT d cs ts S) c) pre (pm 0 (uR d S)) acc = fs1 c pre acc := by
        show fs1 (pl 0 c) (pre ++ []) acc = _
        rw [List.append_nil]
        unfold pl
        rw [if_neg (by decide), Int.zero_add]
      rw [e]; exact u3
  | succ k ih =>
    intro n hn F hF g m S c pre acc hX hr hW hu hc hp h145 hO hA
    obtain ⟨F', rfl⟩ : ∃ F', F = F' + 1 := ⟨F - 1, by omega⟩
    show T (ebX10_searchOrders_0 (eX10_searchOrders F') n (flA n) c g m) _
    unfold ebX10_searchOrders_0
    have hd := hX.2.2.2.2.1.2.1
    have hl := hd.1.2
    have hl1 := hd.1.1
    have hfl : 85 ≤ flA n ∧ flA n + 7 ≤ 175 ∧ (flA n + 7 < 93 ∨ 152 ≤ flA n ∧ flA n + 7 < 152 + 8 * n) := by
      unfold flA
      split <;> omega
    have hval : ∀ ts, ts ∈ pm (k + 1) (uR d S) → vT d cs ts S = 1000000 ∨ 0 ≤ vT d cs ts S ∧ vT d cs ts S ≤ 100 * ((k + 1 : Nat) : Int) := fun ts h => vT_b hd hcs (k + 1) S hW ts h
    generalize hu' : uR d S = u at *
    refine T_bdl (Q := fun r => (Cx r.2.2.2.1 r.2.2.2.2 d cs ∧ SoF n m r.2.2.2.2) ∧ OA r.2.2.2.2 (fg (fun ts => pl (vT d cs ts S) c) pre (pmN k u (dl d).toNat) acc) ∧ (r.2.1 = 0 ↔ ∀ j, uo u j = false))
      (iter_T (fun s : Int × Int × Shp × Mem => (0 ≤ s.2.1 ∧ s.2.1 ≤ dl d) ∧ (0 ≤ s.1 ∧ s.1 ≤ s.2.1) ∧ (s.1 = 0 ↔ ∀ j, j < s.2.1 → uo u j = false) ∧ (Cx s.2.2.1 s.2.2.2 d cs ∧ SoF n m s.2.2.2) ∧ OA s.2.2.2 (fg (fun ts => pl (vT d cs ts S) c) pre (pmN k u s.2.1.toNat) acc)) (fun s => (dl d - s.2.1).toNat) ?_ 100000 (0, 0, g, m) ⟨by dsimp only; omega, by dsimp only; omega, ⟨fun _ j hj => ?_, fun _ => rfl⟩, ⟨hX, SoF.rf n m⟩, hO⟩ (by dsimp only; omega)) ?_
    · rintro ⟨o, i, g', m'⟩ ⟨i1, o1, o2, ⟨x1, x2⟩, x3⟩
      dsimp only at i1 o1 o2 x1 x2 x3
      have hA' : AcOk (fg (fun ts => pl (vT d cs ts S) c) pre (pmN k u i.toNat) acc) := fg_ok _ hA
      obtain ⟨⟨hS', hG'⟩, hR', hL', hF', ⟨hdt', _, hP', hI'⟩, h144⟩ := id x1
      have ePl : m' (m' 1 6) 5 = dl d := hI'.2.1
      have hr' : RowEq (rowC m' (flA n)) S := by
        rw [rowC_c (m := m) (fun a a1 a2 => x2.1 a (by omega) (by omega) (by omega))]
        exact hr
      have es : (i + 1).toNat = i.toNat + 1 := by omega
      have ei : ((i.toNat : Nat) : Int) = i := by omega
      have epm : pmN k u (i.toNat + 1) = pmN k u i.toNat ++ pmJ (pm k) u i := by
        show pmN k u i.toNat ++ pmJ (pm k) u ((i.toNat : Nat) : Int) = _
        rw [ei]
      unfold eBX10_searchOrders_6 ebX10_searchOrders_6
      dsimp only
      simp only [ePl]
      refine T_if (fun c1 => T_out (by decide) ⟨⟨x1, x2⟩, ?_, ?_⟩) (fun c1 => ?_)
      · dsimp only
        rw [show dl d = i by omega]; exact x3
      · dsimp only
        rw [o2]
        constructor
        · intro h j
          by_cases q : j < i
          · exact h j q
          · by_cases q2 : uo u j = true
            · rw [← hu'] at q2
              have := uR_o.mp q2
              omega
            · rw [Bool.not_eq_true] at q2; exact q2
        · exact fun h j _ => h j
      have go : ∀ (o' : Int) (g2 : Shp) (m2 : Mem), (0 ≤ o' ∧ o' ≤ i + 1) → (o' = 0 ↔ ∀ j, j < i + 1 → uo u j = false) → Cx g2 m2 d cs → SoF n m m2 → OA m2 (fg (fun ts => pl (vT d cs ts S) c) pre (pmJ (pm k) u i) (fg (fun ts => pl (vT d cs ts S) c) pre (pmN k u i.toNat) acc)) → T (ebX10_searchOrders_190 (eX10_searchOrders F') n (flA n) c o' i g2 m2) (G (fun s : Int × Int × Shp × Mem => (0 ≤ s.2.1 ∧ s.2.1 ≤ dl d) ∧ (0 ≤ s.1 ∧ s.1 ≤ s.2.1) ∧ (s.1 = 0 ↔ ∀ j, j < s.2.1 → uo u j = false) ∧ (Cx s.2.2.1 s.2.2.2 d cs ∧ SoF n m s.2.2.2) ∧ OA s.2.2.2 (fg (fun ts => pl (vT d cs ts S) c) pre (pmN k u s.2.1.toNat) acc)) (fun s => (dl d - s.2.1).toNat) (dl d - i).toNat (fun r => (Cx r.2.2.2.1 r.2.2.2.2 d cs ∧ SoF n m r.2.2.2.2) ∧ OA r.2.2.2.2 (fg (fun ts => pl (vT d cs ts S) c) pre (pmN k u (dl d).toNat) acc) ∧ (r.2.1 = 0 ↔ ∀ j, uo u j = false))) := by
        intro o' g2 m2 a1 a2 a3 a4 a5
        unfold ebX10_searchOrders_190
        rw [w32_id (by omega) (by omega)]
        refine T_vv (T_go ⟨by dsimp only; omega, a1, a2, ⟨a3, a4⟩, ?_⟩ (by dsimp only; omega))
        dsimp only
        rw [es, epm, fg_app]
        exact a5
      refine T_bd2 (tX1_isCovered ⟨i1.1, by omega⟩) ?_
      intro r2 m2 e2
      cases e2
      rw [hr' _ (by omega) (by omega)]
      by_cases hop : S (10 + i) = -4
      · have huo : uo u i = true := by rw [← hu']; exact uR_o.mpr ⟨⟨i1.1, by omega⟩, by omega, hop⟩
        rw [if_pos hop]
        have hcs' := hcs i i1.1 (by omega)
        have ho' : (o + 1 = 0 ↔ ∀ j, j < i + 1 → uo u j = false) := ⟨fun h => by omega, fun h => by have := h i (by omega); rw [huo] at this; exact absurd this (by decide)⟩
        have epj : pmJ (pm k) u i = (pm k (ud u i)).map (fun ts => i :: ts) := by unfold pmJ; rw [if_pos huo]
        refine T_it rfl ?_
        rw [w32_id (x := o + 1) (by omega) (by omega)]
        refine T_vv (T_it (by omega) (T_ck ⟨i1.1, by omega⟩ (T_ck ⟨i1.1, by omega⟩ ?_)))
        rw [h144 i i1.1 (by omega), show m' 1 6 + 3 + (2 + 3 * i) = m' 1 6 + 5 + 3 * i by omega]
        have hfk := flA_k hS' (n := n) (by omega)
        have hgw : gk g' 148 = 10 := (hS'.1 (148, 10, 0) (by decide)).1
        have hsp := sh_p hS' hP' (i := i) ⟨i1.1, by omega⟩
        refine T_bd3 (T_eq (tX0_find hS' hG' hR' hL' hd ⟨i1.1, by omega⟩ hI' hr' hW hP' ⟨by omega, by omega⟩ hfk.2 hcs' (Or.inl rfl) (by omega) hgw)) ?_
        rintro r3 g3 m3 ⟨e3, u1, u2, u3, u4, u5⟩
        dsimp only at u1 u2 u3 u4 u5
        have hn3 := nX0_find hS' hG' hsp.1 hsp.2 hfk.1 hgw e3
        have f3 : ∀ a, a ≤ 267 → (a < 5 ∨ 84 < a) → (a < 148 ∨ 151 < a) → m3 a = m' a := u4
        have hX3 : Cx g3 m3 d cs := by
          refine ⟨hn3.1, u3, u2, fun k a b => by rw [f3 147 (by decide) (by decide) (by decide)]; exact hF' k a b, ⟨?_, hd, by rw [f3 1 (by decide) (by decide) (by decide)]; exact hP', ?_⟩, fun i a b => by rw [f3 144 (by decide) (by decide) (by decide)]; exact h144 i a b⟩
          · rw [← hdt']
            exact dt_c (by rw [f3 241 (by decide) (by decide) (by decide)]) (fun a a1 a2 => f3 a (by omega) (by omega) (by omega))
          · rw [f3 1 (by decide) (by decide) (by decide)]
            exact hI'.c hl (fun a a1 a2 => f3 a (by omega) (by omega) (by omega))
        have hS3 : SoF n m' m3 := ⟨fun a a1 a2 a3 => f3 a a1 a2 (by omega), fun j _ => by rw [f3 145 (by decide) (by decide) (by decide)], by rw [f3 143 (by decide) (by decide) (by decide)]⟩
        have hO3 : OA m3 (fg (fun ts => pl (vT d cs ts S) c) pre (pmN k u i.toNat) acc) := OA_c x3 (by rw [f3 143 (by decide) (by decide) (by decide)]) (by rw [f3 143 (by decide) (by decide) (by decide)]) (by rw [f3 143 (by decide) (by decide) (by decide)]) (f3 146 (by decide) (by decide) (by decide))
        generalize hacc : fg (fun ts => pl (vT d cs ts S) c) pre (pmN k u i.toNat) acc = acc' at *
        have hmem : ∀ ts, ts ∈ pm k (ud u i) → (i :: ts) ∈ pm (k + 1) u := by
          intro ts hts
          have hne : ¬ (u.1 || u.2.1 || u.2.2) = false := by
            intro q
            obtain ⟨a, b, cc⟩ := u
            have := uc_z a b cc q
            have h2 := uc_s huo
            omega
          unfold pm
          rw [if_neg hne, List.mem_append, List.mem_append]
          have hin : (i :: ts) ∈ pmJ (pm k) u i := by rw [epj]; exact List.mem_map_of_mem hts
          rcases (show i = 0 ∨ i = 1 ∨ i = 2 by omega) with q | q | q <;> rw [q] at hin ⊢
          · exact Or.inl hin
          · exact Or.inr (Or.inl hin)
          · exact Or.inr (Or.inr hin)
        have skip : (∀ ts, ts ∈ pm k (ud u i) → noB (pl (vT d cs (i :: ts) S) c) acc') → T (ebX10_searchOrders_190 (eX10_searchOrders F') n (flA n) c (o + 1) i g3 m3) (G (fun s : Int × Int × Shp × Mem => (0 ≤ s.2.1 ∧ s.2.1 ≤ dl d) ∧ (0 ≤ s.1 ∧ s.1 ≤ s.2.1) ∧ (s.1 = 0 ↔ ∀ j, j < s.2.1 → uo u j = false) ∧ (Cx s.2.2.1 s.2.2.2 d cs ∧ SoF n m s.2.2.2) ∧ OA s.2.2.2 (fg (fun ts => pl (vT d cs ts S) c) pre (pmN k u s.2.1.toNat) acc)) (fun s => (dl d - s.2.1).toNat) (dl d - i).toNat (fun r => (Cx r.2.2.2.1 r.2.2.2.2 d cs ∧ SoF n m r.2.2.2.2) ∧ OA r.2.2.2.2 (fg (fun ts => pl (vT d cs ts S) c) pre (pmN k u (dl d).toNat) acc) ∧ (r.2.1 = 0 ↔ ∀ j, uo u j = false))) := by
          intro hnb
          refine go (o + 1) g3 m3 (by omega) ho' hX3 (x2.tr hS3) ?_
          rw [epj, fg_no _ (fun ts hts => ?_)]
          · exact hO3
          · obtain ⟨ts', h1, h2⟩ := List.mem_map.mp hts
            rw [← h2]; exact hnb ts' h1
        unfold ebX10_searchOrders_91
        refine T_vv ?_
        rcases u1 with ⟨v1, v2⟩ | ⟨v1, v2, v3, v4, v5⟩
        · rw [v1]
          refine T_it rfl (skip (fun ts hts => ?_))
          have e1 : vT d cs (i :: ts) S = 1000000 := by
            show (if cR d S i (cs i) = 1000000 then 1000000 else _) = _
            rw [if_pos v2]
          rw [e1]
          unfold noB pl
          rw [if_pos rfl]
          cases hq : acc' with
          | none => dsimp only; omega
          | some q => dsimp only; have := hA' q hq; omega
        · have hcb := (cR_b (i := i) hd hW hcs').resolve_left v2
          rw [v1, v3, w32_id (x := c + cR d S i (cs i) / 32) (by omega) (by omega)]
          have hvt : ∀ ts, vT d cs (i :: ts) S = pl (vT d cs ts (covR d S i (cs i))) (cR d S i (cs i) / 32) := by
            intro ts
            show (if cR d S i (cs i) = 1000000 then 1000000 else _) = _
            rw [if_neg v2]
          refine T_ie (by decide) (T_bd2 (tX3_isFewer hO3 (by omega)) ?_)
          rintro r4 m4 ⟨e4, w⟩
          dsimp only at e4 w
          subst e4
          rcases w with ⟨w1, w2⟩ | ⟨w1, w2⟩
          · subst w1
            refine T_ie (by decide) (T_ck ⟨by omega, by omega⟩ ?_)
            have e147 : ∀ mm : Mem, OrdF mm → mm 147 n = flA ((n : Int) + 1) := by
              intro mm hmm
              rw [hmm n (by omega) (by omega)]
              unfold flA
              rw [if_neg (by omega)]
              omega
            have hflA1 : flA ((n : Int) + 1) = 152 + 8 * n := by unfold flA; rw [if_neg (by omega)]; omega
            rw [e147 m4 hX3.2.2.2.1]
            have hr4 : RowEq (rowC m4 (flA n)) S := by
              rw [rowC_c (m := m') (fun a a1 a2 => hS3.1 a (by omega) (by omega) (by omega))]
              exact hr'
            have hfk1 := flA_k hX3.1.1 (n := (n : Int) + 1) (by omega)
            have hfk0 := flA_k hX3.1.1 (n := (n : Int)) (by omega)
            refine T_bd2 (T_eq (tX1_copy (d := flA ((n : Int) + 1)) (s := flA n) (by rw [hflA1]; unfold flA; split <;> omega))) ?_
            rintro r5 m5 ⟨e5, _, c1', c2'⟩
            dsimp only at c1' c2'
            have hS5 := nX1_copy hX3.1.1 hfk1.1 hfk0.1 e5
            rw [hflA1] at c1' c2'
            have f5 : ∀ a : Int, (a < 152 + 8 * n ∨ 175 < a) → m5 a = m4 a := fun a ha => c2' a (by omega)
            have hX5 : Cx g3 m5 d cs := hX3.c hS5 (fun a a1 a2 => f5 a (by omega))
            rw [e147 m5 hX5.2.2.2.1, hX5.2.2.2.2.2 i i1.1 (by omega), hflA1]
            have hP5 := hX5.2.2.2.2.1.2.2.1
            have e16 : m5 1 = m' 1 := by rw [f5 1 (by omega), f3 1 (by decide) (by decide) (by decide)]
            have hI5 := hX5.2.2.2.2.1.2.2.2
            rw [e16] at hI5
            have hW5 : WayN m5 148 (dz d) (sR d S i (cs i)) (cR d S i (cs i) % 32).toNat := v4.c (fun a a1 a2 => f5 a (by omega))
            refine T_ck ⟨by omega, by omega⟩ (T_ck ⟨i1.1, by omega⟩ (T_bd2 (T_eq (tX1_putDown (f := 152 + 8 * n) (w := 148) hd ⟨i1.1, by omega⟩ hI5 (by omega) (c1'.tr hr4) hW hcs' v2 hW5 (by rw [f5 148 (by omega)]; exact v3) (by omega))) ?_))
            rintro r6 m6 ⟨e6, d1, d2⟩
            dsimp only at d1 d2
            have hgk148 : gk g3 148 = 10 := (hX5.1.1.1 (148, 10, 0) (by decide)).1
            rw [← hflA1] at e6
            have hS6 := nX1_putDown hX5.1.1 hfk1.1 (by rw [show m' 1 6 + 5 + 3 * i = m' 1 6 + 5 + 3 * i from rfl]; exact (sh_p hX5.1.1 hP' (i := i) ⟨i1.1, by omega⟩).1) hgk148 e6
            refine T_ck ⟨by omega, by omega⟩ (T_vm' (fun m7 e7 => T_ck ⟨by omega, by omega⟩ ?_))
            have hS7 : Sh g3 m7 := hS6.s e7 (nRa (s_143_1 hS6).2.1 (by decide))
            have f7 : ∀ a : Int, a ≠ 145 → (a < 152 + 8 * n ∨ 175 < a) → m7 a = m4 a := fun a a1 a2 => by rw [e7, ms_f a1, d2 a (by omega), f5 a a2]
            have hX7 : Cx g3 m7 d cs := hX3.c hS7 (fun a a1 a2 => f7 a (by omega) (by omega))
            rw [e147 m7 hX7.2.2.2.1]
            have hS47 : SoF n m4 m7 := ⟨fun a a1 a2 a3 => f7 a (by omega) (by omega), fun j hj => by rw [e7, ms_y (by omega), d2 145 (by omega), f5 145 (by omega)], by rw [f7 143 (by decide) (by omega)]⟩
            have huR : uR d (covR d S i (cs i)) = ud u i := by rw [uR_cov ⟨i1.1, by omega⟩ hcs', hu']
            have hrec := ih (n + 1) (by omega) F' (by omega) g3 m7 (covR d S i (cs i)) (c + cR d S i (cs i) / 32) (pre ++ [i]) acc' hX7 (by rw [show (((n + 1 : Nat)) : Int) = (n : Int) + 1 by omega, hflA1, rowC_c (m := m6) (fun a a1 a2 => by rw [e7, ms_f (by omega)])]; exact d1) (covR_w hd ⟨i1.1, by omega⟩ hW hcs' v2 hop) (by rw [huR]; have := uc_s huo; omega) (by omega) (by simp [hp]) ?_ (OA_c hO3 (by rw [f7 143 (by decide) (by omega)]) (by rw [f7 143 (by decide) (by omega)]) (by rw [f7 143 (by decide) (by omega)]) (f7 146 (by decide) (by omega))) hA'
            · rw [w32_id (x := (n : Int) + 1) (by omega) (by omega)]
              rw [show (((n + 1 : Nat)) : Int) = (n : Int) + 1 by omega] at hrec
              refine T_bd3 hrec ?_
              rintro r8 g8 m8 ⟨z1, z2, z3⟩
              dsimp only at z1 z2 z3
              refine go (o + 1) g8 m8 (by omega) ho' z1 (((x2.tr hS3).tr hS47).tr (z2.mo (by omega))) ?_
              rw [epj, fg_map (val' := fun ts => pl (vT d cs ts (covR d S i (cs i))) (c + cR d S i (cs i) / 32))]
              · rw [huR] at z3; exact z3
              · intro ts hts
                rw [hvt ts]
                rw [← huR] at hts
                have hb := vT_b hd hcs k _ (covR_w hd ⟨i1.1, by omega⟩ hW hcs' v2 hop) ts hts
                unfold pl
                by_cases q : vT d cs ts (covR d S i (cs i)) = 1000000
                · rw [if_pos q, if_pos rfl, if_pos q]
                · have := hb.resolve_left q
                  rw [if_neg q, if_neg (by omega), if_neg q]; omega
            · intro j hj
              rw [e7]
              by_cases q : j = n
              · rw [q]
                rw [← hp, ms_at, getD_r]
              · rw [ms_y (by omega), d2 145 (by omega), f5 145 (by omega), f3 145 (by decide) (by decide) (by decide), x2.2.1 j (by omega), h145 j (by omega), getD_l _ _ _ (by omega)]
          · subst w1
            refine T_it rfl (skip (fun ts hts => ?_))
            have hts' := hts
            rw [hvt ts]
            rw [show ud u i = uR d (covR d S i (cs i)) by rw [uR_cov ⟨i1.1, by omega⟩ hcs', hu']] at hts'
            have hb := vT_b hd hcs k _ (covR_w hd ⟨i1.1, by omega⟩ hW hcs' v2 hop) ts hts'
            unfold noB at w2 ⊢
            cases hq : acc' with
            | none => rw [hq] at w2; dsimp only at w2; omega
            | some q =>
              rw [hq] at w2
              dsimp only at w2 ⊢
              have hq1 := hA' q hq
              unfold pl
              by_cases q2 : vT d cs ts (covR d S i (cs i)) = 1000000
              · rw [if_pos q2, if_pos rfl]; omega
              · have := hb.resolve_left q2
                rw [if_neg q2, if_neg (by omega)]; omega
      · have huo : uo u i = false := by
          by_cases q : uo u i = true
          · rw [← hu'] at q
            exact absurd (uR_o.mp q).2.2 hop
          · rw [Bool.not_eq_true] at q; exact q
        rw [if_neg hop]
        refine T_ie (by decide) (go o g' m' (by omega) ⟨fun h j hj => ?_, fun h => o2.mpr (fun j hj => h j (by omega))⟩ x1 x2 ?_)
        · by_cases q : j = i
          · rw [q]; exact huo
          · exact o2.mp h j (by omega)
        · have : pmJ (pm k) u i = [] := by unfold pmJ; rw [huo]; rfl
          rw [this]; exact x3
    · dsimp only at hj
      by_cases q : uo u j = true
      · have := uo_r q
        omega
      · rw [Bool.not_eq_true] at q; exact q
    · rintro cc ⟨o, i, g', m'⟩ ⟨⟨x1, x2⟩, x3, x4⟩
      dsimp only at x1 x2 x3 x4 ⊢
      by_cases ho : o = 0
      · subst ho
        have hall := x4.mp rfl
        have hno : (u.1 || u.2.1 || u.2.2) = false := by
          have h0 := hall 0
          have h1 := hall 1
          have h2 := hall 2
          unfold uo at h0 h1 h2
          simp at h0 h1 h2
          rw [h0, h1, h2]; rfl
        have enil : ∀ n' : Nat, pmN k u n' = [] := by
          intro n'
          induction n' with
          | zero => rfl
          | succ n' ihn =>
            show pmN k u n' ++ pmJ (pm k) u n' = []
            rw [ihn]
            unfold pmJ
            rw [hall]; rfl
        rw [enil] at x3
        have epm : pm (k + 1) u = [[]] := by unfold pm; rw [if_pos hno]
        rw [epm]
        refine T_mono (search_end (acc := acc) (by omega) x1 ⟨by omega, by omega⟩ hp (fun j hj => by rw [x2.2.1 j (by omega)]; exact h145 j hj) x3) ?_
        rintro r ⟨u1, u2, u3⟩
        refine ⟨u1, x2.tr u2, ?_⟩
        have e : fg (fun ts => pl (vT d cs ts S) c) pre [[]] acc = fs1 c pre acc := by
          show fs1 (pl 0 c) (pre ++ []) acc = _
          rw [List.append_nil]
          unfold pl
          rw [if_neg (by decide), Int.zero_add]
        rw [e]; exact u3
      · have hne : ¬ (u.1 || u.2.1 || u.2.2) = false := by
          intro q
          apply ho
          rw [x4]
          intro j
          by_cases q2 : uo u j = true
          · obtain ⟨a, b, c3⟩ := u
            have := uc_z a b c3 q
            have h2 := uc_s q2
            omega
          · rw [Bool.not_eq_true] at q2; exact q2
        have epm : pm (k + 1) u = pmN k u (dl d).toNat := by
          rw [pmN_3 (n := (dl d).toNat) (by omega) (fun j hj => ?_)]
          · conv => lhs; unfold pm
            rw [if_neg hne]
          · by_cases q2 : uo u j = true
            · rw [← hu'] at q2
              have := uR_o.mp q2
              omega
            · rw [Bool.not_eq_true] at q2; exact q2
        rw [epm]
        unfold ebX10_searchOrders_196 ebX10_searchOrders_221
        exact T_ie ho (T_some ⟨x1, x2, x3⟩)
