/-! ===== the codes of orders ===== -/
def tc (code k : Nat) : Nat := if k = 0 then code / 9 else if k = 1 then code / 3 % 3 else code % 3
def dif (code k j : Nat) : Bool := !(tc code j == tc code k)
def cdk (u : U3) (code k : Nat) : Bool := if k < uc u then uo u ((tc code k : Nat) : Int) && (List.range k).all (dif code k) else tc code k == 0
def av (u : U3) (code k : Nat) : Bool := (List.range k).all (cdk u code)
def lsc (u : U3) (code : Nat) : List Int := ([tc code 0, tc code 1, tc code 2].take (uc u)).map (fun n : Nat => (n : Int))
theorem cd_pm : ∀ a b c : Bool, ((List.range 27).filter (fun code => av (a, b, c) code 3)).map (lsc (a, b, c)) = pm 3 (a, b, c) := by decide +kernel
theorem all_s (f : Nat → Bool) (j : Nat) : (List.range (j + 1)).all f = ((List.range j).all f && f j) := by
  rw [List.range_succ, List.all_append]
  simp
theorem tc_r {code k : Nat} (h : code < 27) : tc code k < 3 := by
  unfold tc
  split
  · omega
  · split <;> omega
theorem tX11_layTurns {g : Shp} {m : Mem} {code : Nat} (h : code < 27) : T (eX11_layTurns g code m) (fun r => (∀ k : Nat, k < 3 → r.2 267 k = tc code k) ∧ ∀ a, a ≠ 267 → r.2 a = m a) := by
  unfold eX11_layTurns ebX11_layTurns_0
  rw [jdiv_n (by omega) (by decide) (by omega), jdiv_n (by omega) (by decide) (by omega), jrem_n (by omega) (by decide) (by omega), jrem_n (by omega) (by decide) (by omega)]
  refine T_ck (by decide) (T_vm' (fun m1 e1 => T_ck (by decide) (T_vm' (fun m2 e2 => T_ck (by decide) (T_vm' (fun m3 e3 => T_some ⟨fun k hk => ?_, fun a ha => ?_⟩))))))
  · dsimp only
    rw [e3]
    unfold tc
    rcases (show k = 0 ∨ k = 1 ∨ k = 2 by omega) with q | q | q <;> subst q
    · rw [ms_y (by decide), e2, ms_y (by decide), e1]
      show ms m 267 0 _ 267 0 = _
      rw [ms_at, if_pos rfl]; omega
    · rw [ms_y (by decide), e2]
      show ms m1 267 1 _ 267 1 = _
      rw [ms_at, if_neg (by decide), if_pos rfl]; omega
    · show ms m2 267 2 _ 267 2 = _
      rw [ms_at, if_neg (by decide), if_neg (by decide)]; omega
  · dsimp only
    rw [e3, ms_f ha, e2, ms_f ha, e1, ms_f ha]
theorem tX11_isTurns {g : Shp} {m : Mem} {d : Dt} {code : Nat} (hc : code < 27) (hd : WPl d) (hdt : dt m = d) (h267 : ∀ k : Nat, k < 3 → m 267 k = tc code k) : T (eX11_isTurns g (uc (uR d (m 242))) m) (fun r => r = (b01 (av (uR d (m 242)) code 3), m)) := by
  have hl := hd.1
  generalize hu : uR d (m 242) = u
  have hn3 : uc u ≤ 3 := by obtain ⟨a, b, c⟩ := u; exact uc_3 a b c
  unfold eX11_isTurns ebX11_isTurns_0
  refine T_bdl (Q := fun r => r.2.1 = b01 (av u code 3) ∧ r.2.2.2 = m)
    (iter2 (fun v k m' => (0 ≤ k ∧ k ≤ 3) ∧ v = b01 (av u code k.toNat) ∧ m' = m) (fun _ k => (3 - k).toNat) ⟨by decide, rfl, rfl⟩ (by decide) ?_) ?_
  · rintro v k m' ⟨k1, hv, rfl⟩
    have es : (k + 1).toNat = k.toNat + 1 := by omega
    have ek : ((k.toNat : Nat) : Int) = k := by omega
    have hnx : av u code (k.toNat + 1) = (av u code k.toNat && cdk u code k.toNat) := all_s _ _
    have tail : ∀ z0 : Bool, z0 = (av u code k.toNat && (if k.toNat < uc u then uo u ((tc code k.toNat : Nat) : Int) else tc code k.toNat == 0)) → k < 3 → T (ebX11_isTurns_61 g (uc u) k (b01 z0) m') (G (fun q => (fun (v k : Int) (m'' : Mem) => (0 ≤ k ∧ k ≤ 3) ∧ v = b01 (av u code k.toNat) ∧ m'' = m') q.1 q.2.1 q.2.2) (fun q => (fun (_ k : Int) => (3 - k).toNat) q.1 q.2.1) ((fun (_ k : Int) => (3 - k).toNat) v k) (fun r => r.2.1 = b01 (av u code 3) ∧ r.2.2.2 = m')) := by
      intro z0 hz0 hk3
      unfold ebX11_isTurns_61
      refine T_bdl (Q := fun r => r.2.1 = b01 (z0 && (if k.toNat < uc u then (List.range k.toNat).all (dif code k.toNat) else true)) ∧ r.2.2.2 = m')
        (iter2 (fun w j m'' => (0 ≤ j ∧ j ≤ k) ∧ w = b01 (z0 && (if k.toNat < uc u then (List.range j.toNat).all (dif code k.toNat) else true)) ∧ m'' = m') (fun _ j => (k - j).toNat) ⟨by omega, ?_, rfl⟩ (by omega) ?_) ?_
      · have : (List.range (0 : Int).toNat).all (dif code k.toNat) = true := rfl
        rw [this]; simp
      · rintro w j m'' ⟨j1, hw, rfl⟩
        unfold eBX11_isTurns_65 ebX11_isTurns_65 ebX11_isTurns_100 ebX11_isTurns_101
        simp only
        refine T_if (fun c => T_out (by decide) ⟨?_, rfl⟩) (fun c => T_if (fun c2 => T_out (by decide) ⟨?_, rfl⟩) (fun c2 => ?_))
        · rw [hw, show j = k by omega]
        · rw [hw, if_neg (by omega), if_neg (by omega)]
        · have hlt : k.toNat < uc u := by omega
          rw [if_pos hlt] at hw
          have ejs : (j + 1).toNat = j.toNat + 1 := by omega
          rw [w32_id (by omega) (by omega)]
          have hj := h267 j.toNat (by omega)
          have hkk := h267 k.toNat (by omega)
          rw [ek] at hkk
          rw [show ((j.toNat : Nat) : Int) = j by omega] at hj
          have goF : (z0 && (List.range (j.toNat + 1)).all (dif code k.toNat)) = false → T (vv (j + 1) fun y1 => some ((0 : Int), ((0 : Int), y1, m''))) (G (fun q => (fun (w j : Int) (m3 : Mem) => (0 ≤ j ∧ j ≤ k) ∧ w = b01 (z0 && (if k.toNat < uc u then (List.range j.toNat).all (dif code k.toNat) else true)) ∧ m3 = m'') q.1 q.2.1 q.2.2) (fun q => (fun (_ j : Int) => (k - j).toNat) q.1 q.2.1) ((fun (_ j : Int) => (k - j).toNat) w j) (fun r => r.2.1 = b01 (z0 && (if k.toNat < uc u then (List.range k.toNat).all (dif code k.toNat) else true)) ∧ r.2.2.2 = m'')) := by
            intro hh
            refine T_vv (T_go ⟨⟨by simp only; omega, by simp only; omega⟩, ?_, rfl⟩ (by simp only; omega))
            simp only [ejs]
            rw [if_pos hlt, hh]; rfl
          have goT : (z0 && (List.range (j.toNat + 1)).all (dif code k.toNat)) = true → T (vv (j + 1) fun y1 => some ((0 : Int), ((1 : Int), y1, m''))) (G (fun q => (fun (w j : Int) (m3 : Mem) => (0 ≤ j ∧ j ≤ k) ∧ w = b01 (z0 && (if k.toNat < uc u then (List.range j.toNat).all (dif code k.toNat) else true)) ∧ m3 = m'') q.1 q.2.1 q.2.2) (fun q => (fun (_ j : Int) => (k - j).toNat) q.1 q.2.1) ((fun (_ j : Int) => (k - j).toNat) w j) (fun r => r.2.1 = b01 (z0 && (if k.toNat < uc u then (List.range k.toNat).all (dif code k.toNat) else true)) ∧ r.2.2.2 = m'')) := by
            intro hh
            refine T_vv (T_go ⟨⟨by simp only; omega, by simp only; omega⟩, ?_, rfl⟩ (by simp only; omega))
            simp only [ejs]
            rw [if_pos hlt, hh]; rfl
          have hs := all_s (dif code k.toNat) j.toNat
          cases hb : (z0 && (List.range j.toNat).all (dif code k.toNat)) with
          | false =>
            rw [hb] at hw
            refine T_it hw (goF ?_)
            rw [hs, ← Bool.and_assoc, hb, Bool.false_and]
          | true =>
            rw [hb] at hw
            rw [hj, hkk]
            refine T_ie (by rw [hw]; decide) (T_ck ⟨by omega, by omega⟩ (T_ck ⟨by omega, by omega⟩ (T_if (fun c3 => goF ?_) (fun c3 => goT ?_))))
            · rw [hs, ← Bool.and_assoc, hb, Bool.true_and]
              unfold dif
              have : tc code j.toNat = tc code k.toNat := by omega
              rw [this]; simp
            · rw [hs, ← Bool.and_assoc, hb, Bool.true_and]
              unfold dif
              have : tc code j.toNat ≠ tc code k.toNat := fun q => c3 (by rw [q])
              simp [this]
      · rintro c2 ⟨w, j, m2⟩ ⟨hw, hm⟩
        dsimp only at hw hm ⊢
        subst hm
        unfold ebX11_isTurns_108
        rw [w32_id (by omega) (by omega)]
        refine T_vv (T_go ⟨⟨by simp only; omega, by simp only; omega⟩, ?_, rfl⟩ (by simp only; omega))
        simp only [es]
        rw [hw, hnx, hz0]
        unfold cdk
        by_cases q : k.toNat < uc u
        · rw [if_pos q, if_pos q, if_pos q, Bool.and_assoc]
        · rw [if_neg q, if_neg q, if_neg q, Bool.and_true]
    unfold eBX11_isTurns_4 ebX11_isTurns_4 ebX11_isTurns_56 ebX11_isTurns_60
    simp only
    refine T_if (fun c => T_out (by decide) ⟨?_, rfl⟩) (fun c => ?_)
    · rw [hv, show k.toNat = 3 by omega]
    · have hkk := h267 k.toNat (by omega)
      rw [ek] at hkk
      have htr := tc_r (k := k.toNat) hc
      cases hb : av u code k.toNat with
      | false =>
        rw [hb] at hv
        exact T_it hv (tail false (by rw [hb, Bool.false_and]) (by omega))
      | true =>
        rw [hb] at hv
        refine T_ie (by rw [hv]; decide) (T_if (fun c2 => T_ck ⟨by omega, by omega⟩ ?_) (fun c2 => T_ck ⟨by omega, by omega⟩ ?_))
        · rw [hkk]
          refine T_if (fun c3 => tail true ?_ (by omega)) (fun c3 => tail false ?_ (by omega))
          · rw [hb, if_neg (by omega), Bool.true_and]
            have : tc code k.toNat = 0 := by omega
            rw [this]; rfl
          · rw [hb, if_neg (by omega), Bool.true_and]
            have : tc code k.toNat ≠ 0 := by omega
            simp [this]
        · rw [hkk]
          refine T_bd2 (tX11_isLine (by rw [hdt]; exact hl)) ?_
          intro r2 m2 e2
          cases e2
          rw [hdt]
          have huo : uo u ((tc code k.toNat : Nat) : Int) = true ↔ ((tc code k.toNat : Nat) : Int) < dl d ∧ m' 242 (10 + ((tc code k.toNat : Nat) : Int)) = -4 := by
            rw [← hu, uR_o]
            exact ⟨fun h => h.2, fun h => ⟨by omega, h⟩⟩
          have fF : ¬ uo u ((tc code k.toNat : Nat) : Int) = true → false = (av u code k.toNat && (if k.toNat < uc u then uo u ((tc code k.toNat : Nat) : Int) else tc code k.toNat == 0)) := by
            intro q
            rw [hb, if_pos (by omega), Bool.true_and]
            rw [Bool.not_eq_true] at q
            exact q.symm
          by_cases hlt : 0 ≤ ((tc code k.toNat : Nat) : Int) ∧ ((tc code k.toNat : Nat) : Int) < dl d
          · rw [if_pos hlt]
            refine T_ie (by decide) (T_ck ⟨by omega, by omega⟩ ?_)
            rw [hkk]
            refine T_bd2 (tX11_isCovered ⟨by omega, by omega⟩) ?_
            intro r3 m3 e3
            cases e3
            by_cases ho : m' 242 (10 + ((tc code k.toNat : Nat) : Int)) = -4
            · rw [if_pos ho]
              refine T_it rfl (tail true ?_ (by omega))
              rw [hb, if_pos (by omega), Bool.true_and, huo.mpr ⟨hlt.2, ho⟩]
            · rw [if_neg ho]
              exact T_ie (by decide) (tail false (fF (fun q => ho (huo.mp q).2)) (by omega))
          · rw [if_neg hlt]
            exact T_it rfl (tail false (fF (fun q => hlt ⟨by omega, (huo.mp q).1⟩)) (by omega))
  · rintro cc ⟨v, k, m2⟩ ⟨hv, hm⟩
    dsimp only at hv hm ⊢
    subst hm
    unfold ebX11_isTurns_114
    rw [hv]
    exact T_ck (by have := b01_r (av u code 3); omega) (T_some rfl)
