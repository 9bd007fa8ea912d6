/-! ===== methods that make cells ===== -/
def vg {α : Type} (g : Shp) (k : Shp → Option α) : Option α := k g
theorem vg_ok {α : Type} {v : Shp} {k : Shp → Option α} {y : α} (h : vg v k = some y) : ∃ x, x = v ∧ k x = some y := ⟨v, rfl, h⟩
def bd3 {α : Type} (a : Option (Int × Shp × Mem)) (k : Int → Shp → Mem → Option α) : Option α := a.bind fun q => k q.1 q.2.1 q.2.2
theorem bd3_ok {α : Type} {a : Option (Int × Shp × Mem)} {k : Int → Shp → Mem → Option α} {y : α} (h : bd3 a k = some y) : ∃ r g m, a = some (r, g, m) ∧ k r g m = some y := by
  obtain ⟨⟨r, g, m⟩, h1, h2⟩ := Option.bind_eq_some_iff.mp h
  exact ⟨r, g, m, h1, h2⟩
theorem iter_WA {σ : Type} {B : σ → Option (Int × σ)} {Pw : σ → Prop} {Px : Int → σ → Prop} {cE : Int} {sE : σ}
    (step : ∀ n s c s', B s = some (c, s') → ((c = 0 ∧ iter B n s' = some (cE, sE)) ∨ (c ≠ 0 ∧ s' = sE ∧ c = cE)) → (c = 0 → Pw s') → (c ≠ 0 → Px c s') → Pw s) : ∀ n s, iter B n s = some (cE, sE) → Px cE sE → Pw s := by
  intro n
  induction n with
  | zero => intro s h; exact absurd h (by simp [iter])
  | succ n ih =>
    intro s h hx
    unfold iter at h
    obtain ⟨⟨c1, s1⟩, h1, h2⟩ := bd_ok h
    by_cases hc : c1 = 0
    · rw [if_pos hc] at h2
      exact step n s c1 s1 h1 (Or.inl ⟨hc, h2⟩) (fun _ => ih s1 h2 hx) (fun h => absurd hc h)
    · rw [if_neg hc] at h2
      cases h2
      exact step n s cE sE h1 (Or.inr ⟨hc, rfl, rfl⟩) (fun h => absurd h hc) (fun _ => hx)
theorem iter_gX {σ : Type} {B : σ → Option (Int × σ)} (pg : σ → Shp) (hB : ∀ s c s', B s = some (c, s') → gOk (pg s) → gX (pg s) (pg s') ∧ gOk (pg s')) : ∀ n s c s', iter B n s = some (c, s') → gOk (pg s) → gX (pg s) (pg s') ∧ gOk (pg s') := by
  intro n
  induction n with
  | zero => intro s c s' h; exact absurd h (by simp [iter])
  | succ n ih =>
    intro s c s' h hg
    unfold iter at h
    obtain ⟨⟨c1, s1⟩, h1, h2⟩ := bd_ok h
    have h3 := hB s c1 s1 h1 hg
    by_cases hc : c1 = 0
    · rw [if_pos hc] at h2
      have h4 := ih s1 c s' h2 h3.2
      exact ⟨h3.1.tr h4.1, h4.2⟩
    · rw [if_neg hc] at h2
      cases h2
      exact h3
theorem gA_k {g g' : Shp} {k sl : Nat} {len y : Int} (h : g' = gA g k len sl) (hy : y = (gn g : Int) + 1) : gk g' y = k := by
  subst h; subst hy
  simp [gk, gA, gn]
theorem gA_l {g g' : Shp} {k sl : Nat} {len y : Int} (h : g' = gA g k len sl) (hy : y = (gn g : Int) + 1) : gl g' y = len := by
  subst h; subst hy
  simp [gl, gA, gn]
theorem gA_X {g g' : Shp} {k sl : Nat} {len : Int} (hg : gOk g) (h : g' = gA g k len sl) : gX g g' := by
  subst h
  refine ⟨Nat.le_succ _, Nat.le_add_right _ _, fun r hr => ?_⟩
  have h1 := hg.1 r hr
  have hne : ¬ r = (g.1 : Int) + 1 := by have : gn g = g.1 := rfl; omega
  simp [gk, gl, gA, hne]
theorem gA_ok {g g' : Shp} {k sl : Nat} {len : Int} (hg : gOk g) (hc : gn g < 1000000 ∧ (0 : Int) ≤ len ∧ len < 1000000) (h : g' = gA g k len sl) : gOk g' := by
  subst h
  have e1 : gn g = g.1 := rfl
  have e2 : gn (gA g k len sl) = g.1 + 1 := rfl
  refine ⟨fun r hr => ?_, by omega, fun r => ?_⟩
  · by_cases hne : r = (g.1 : Int) + 1
    · omega
    · have : gk (gA g k len sl) r = gk g r := by simp [gk, gA, hne]
      rw [this] at hr
      have := hg.1 r hr
      omega
  · by_cases hne : r = (g.1 : Int) + 1
    · have : gl (gA g k len sl) r = len := by simp [gl, gA, hne]
      rw [this]; omega
    · have : gl (gA g k len sl) r = gl g r := by simp [gl, gA, hne]
      rw [this]; exact hg.2.2 r
theorem mA_ok {g g' : Shp} {m m' : Mem} {k sl : Nat} {len : Int} (hg : gOk g) (hm : mOk g m) (h : g' = gA g k len sl) (h2 : m' = mA g m) : mOk g' m' := by
  subst h; subst h2
  have e1 : gn g = g.1 := rfl
  have e2 : gn (gA g k len sl) = g.1 + 1 := rfl
  refine ⟨fun r j => ?_, fun r j hr => ?_⟩
  · unfold mA
    split
    · exact ⟨by decide, by decide⟩
    · exact hm.1 r j
  · unfold mA
    by_cases hne : r = (g.1 : Int) + 1
    · rw [if_pos hne]; omega
    · rw [if_neg hne]
      have : gk (gA g k len sl) r = gk g r := by simp [gk, gA, hne]
      rw [this] at hr
      have := hm.2 r j hr
      omega
theorem eC_new {G : Gl} {ad ad' : Int → Nat} {g : Shp} {m : Mem} {k sl : Nat} {len : Int} (hm : mOk g m) (had : ∀ x, x ≠ (gn g : Int) + 1 → ad' x = ad x) {r : Int} (hr : r ≤ gn g) : eC G ad' (gA g k len sl) (mA g m) r = eC G ad g m r := by
  have e1 : gn g = g.1 := rfl
  have hne : ¬ r = (g.1 : Int) + 1 := by omega
  have k1 : gk (gA g k len sl) r = gk g r := by simp [gk, gA, hne]
  have l1 : gl (gA g k len sl) r = gl g r := by simp [gl, gA, hne]
  have m1 : ∀ j, mA g m r j = m r j := fun j => by simp [mA, hne]
  have o1 : ∀ j, isRs (gk g r) j → orf ad' (m r j) = orf ad (m r j) := fun j hj => by
    have h2 := hm.2 r j hj
    unfold orf
    split
    · rfl
    · rw [had _ (by omega)]
  unfold eC
  rw [k1, l1]
  by_cases h20 : gk g r < 20
  · rw [if_pos h20, if_pos h20]
    congr 2
    apply List.map_congr_left
    intro j _
    unfold fE
    rw [m1]
    by_cases hR : kRef (gk g r) j = true
    · rw [if_pos hR, if_pos hR, o1 _ (Or.inl ⟨h20, by rw [Int.toNat_natCast]; exact hR⟩)]
    · rw [if_neg hR, if_neg hR]
  · rw [if_neg h20, if_neg h20]
    by_cases h23 : gk g r < 23
    · rw [if_pos h23, if_pos h23]
      simp [m1]
    · rw [if_neg h23, if_neg h23]
      have : (fun j : Nat => orf ad' (mA g m r (j : Int))) = fun j : Nat => orf ad (m r (j : Int)) := by
        funext j
        rw [m1, o1 _ (Or.inr (by omega))]
      rw [this]
theorem wl_new {G : Gl} {ad ad' : Int → Nat} {g : Shp} {m : Mem} {k sl : Nat} {len : Int} (hm : mOk g m) (had : ∀ x, x ≠ (gn g : Int) + 1 → ad' x = ad x) : wl G ad' (gA g k len sl) (mA g m) = wl G ad g m ++ [(ad' ((gn g : Int) + 1), eC G ad' (gA g k len sl) (mA g m) ((gn g : Int) + 1))] := by
  have e2 : gn (gA g k len sl) = gn g + 1 := rfl
  unfold wl
  rw [e2, List.range_succ, List.map_append]
  congr 1
  apply List.map_congr_left
  intro j hj
  have hj := List.mem_range.mp hj
  rw [had _ (by omega), eC_new hm had (by omega)]
section Alloc
variable {p : Program} {l : Launch} {e : Env} {R : Room} {s : State} {mt : MethodId} {args : Array Value} {below : List Frame} {meth : Method} {c : Code} {H : Heap} {locs : List Loc} {cells slots : Nat} {Q : State → Prop}
variable {cc : ByteArray} {pc nL : Nat} {ls : Array Slot} {rest st0 : List Value} {own : String} {G : Gl} {A : Nat → Prop} {H0 : Heap} {ad : Int → Nat} {g g' : Shp} {m m' : Mem}
theorem aX_up {q : Nat} (hg : gOk g) : aX g ad (fun r => if r = (gn g : Int) + 1 then q else ad r) := fun r hr => by
  have h1 := hg.1 r hr
  have : ¬ r = (gn g : Int) + 1 := by omega
  simp [this]
/-- a class' words for 'new' -/
def NOK (own : String) (idx k N : Nat) : Prop := ∃ (C : String) (T : u_T) (ty : Nat → FieldType), vwCl[k - 1]? = some (C, T, N) ∧ (1 ≤ k ∧ k < 20) ∧ (∀ w ∈ u_ws C T N, w ∈ tb) ∧ (∀ i, i < N → parseFieldDescriptor (T i).2.2.1 = some (ty i)) ∧ (∀ j, j < N → defaultValue (ty j) = if kRef k j = true then .null else .int 0) ∧ Cond.classLink own idx C ∈ tb ∧ Cond.instantiable C N ∈ tb ∧ Cond.initialized C ∈ tb
theorem q_new (C : CallFix p mt c cc nL s args tb own) (S : Wd G A s H0 ad g m H locs) {k idx N : Nat} (hN : NOK own idx k N) (hck : gn g < 1000000 ∧ (0 : Int) ≤ 0 ∧ (0 : Int) < 1000000) (hcs : cells + 1 ≤ R.cells ∧ slots + N ≤ R.slots) (hg' : g' = gA g k 0 N) (hm' : m' = mA g m) (hdg : decode cc pc = .ok (.new idx, 3))
    (kk : ∀ (ad' : Int → Nat) (H : Heap), aX g ad ad' → Wd G A s H0 ad' g' m' H locs → W p l e R s mt args below meth c H locs (cells + 1) (slots + N) Q (F0 mt (pc + 3) ls (.ref (ad' ((gn g : Int) + 1)) :: rest))) : W p l e R s mt args below meth c H locs cells slots Q (F0 mt pc ls rest) := by
  obtain ⟨hK, hP, hD, hS, hA, hg, hm, hE⟩ := S
  obtain ⟨C0, T, ty, hc, hk, hin, hty, hdf, w1, w2, w3⟩ := hN
  have hkn := kN_of hc
  have hg2 := gA_ok hg hck hg'
  have hm2 := mA_ok hg hm hg' hm'
  refine va_new (ci := k - 1) (fs := (List.range (kN k)).map (fun j => if kRef k j = true then Value.null else .int 0)) C.1 C.2.1 C.2.2.2.2 hin ty hty C.2.2.2.1 (C.2.2.2.2 _ w1) (C.2.2.2.2 _ w2) (C.2.2.2.2 _ w3) hK hP hD hS hA hc (fun j hj => ?_) hcs.1 hcs.2 hdg (fun q H1 h1 h2 h3 => ?_)
  · rw [hdf j hj, hkn]
    simp [vp_V, hj]
  · have hw : wl G ad g m ++ [(q, .inr (k - 1, (List.range (kN k)).map (fun j => if kRef k j = true then Value.null else .int 0)))] = wl G (fun r => if r = (gn g : Int) + 1 then q else ad r) g' m' := by
      subst hg'; subst hm'
      rw [wl_new (ad := ad) hm (fun x hx => by simp [hx])]
      congr 2
      rw [eC_obj (gA_k rfl rfl) hk.2, if_pos rfl]
      congr 3
      apply List.map_congr_left
      intro j _
      have e1 : gn g = g.1 := rfl
      have z : mA g m ((gn g : Int) + 1) j = 0 := by simp [mA, e1]
      unfold fE
      rw [z]
      by_cases hR : kRef k j = true
      · simp [hR, orf, va_rf]
      · simp [hR]; rfl
    rw [hw] at h1 h2
    have := kk _ H1 (aX_up (q := q) hg) ⟨hK, h1, h2, h3, hA, hg2, hm2, hE⟩
    simpa using this
theorem q_newi (C : CallFix p mt c cc nL s args tb own) (S : Wd G A s H0 ad g m H locs) {k : Nat} {at' : ArrayType} {ty : FieldType} {n : Int} {N : Nat} (hN : (n.toNat : Nat) = N) (hk : (k = 20 ∧ at' = .int ∧ ty = .int) ∨ (k = 21 ∧ at' = .boolean ∧ ty = .boolean) ∨ (k = 22 ∧ at' = .char ∧ ty = .char)) (hw : Cond.arrayClass ty ∈ tb) (hck : gn g < 1000000 ∧ (0 : Int) ≤ n ∧ n < 1000000) (hcs : cells + 1 ≤ R.cells ∧ slots + N ≤ R.slots) (hg' : g' = gA g k n N) (hm' : m' = mA g m) (hdg : decode cc pc = .ok (.newarray at', 2))
    (kk : ∀ (ad' : Int → Nat) (H : Heap), aX g ad ad' → Wd G A s H0 ad' g' m' H locs → W p l e R s mt args below meth c H locs (cells + 1) (slots + N) Q (F0 mt (pc + 2) ls (.ref (ad' ((gn g : Int) + 1)) :: rest))) : W p l e R s mt args below meth c H locs cells slots Q (F0 mt pc ls (.int (iI n) :: rest)) := by
  obtain ⟨hK, hP, hD, hS, hA, hg, hm, hE⟩ := S
  have hg2 := gA_ok hg hck hg'
  have hm2 := mA_ok hg hm hg' hm'
  have hcl : (iI n).toNatClampNeg = N := by rw [iI_cl hck.2.1 (by omega), hN]
  have hn0 : ¬ iI n < 0 := fun h => absurd ((iI_lt0 ⟨by omega, by omega⟩).mp h) (by omega)
  have hk2 : 20 ≤ k ∧ k < 23 := by rcases hk with h | h | h <;> omega
  have hT : newarray.typeOf at' = ty := by rcases hk with ⟨_, rfl, rfl⟩ | ⟨_, rfl, rfl⟩ | ⟨_, rfl, rfl⟩ <;> rfl
  have hcell : ∀ cA : ClassId, vp_cell cA (N, .inl (fun _ => (0 : Int32))) = arrV cA N (fun _ => defaultValue ty) := by
    intro cA
    rcases hk with ⟨_, rfl, rfl⟩ | ⟨_, rfl, rfl⟩ | ⟨_, rfl, rfl⟩ <;> rfl
  have hby : N * componentBytes ty ≤ 536870912 := by
    have : componentBytes ty ≤ 4 := by rcases hk with ⟨_, rfl, rfl⟩ | ⟨_, rfl, rfl⟩ | ⟨_, rfl, rfl⟩ <;> decide
    have h2 : N ≤ 1000000 := by omega
    calc N * componentBytes ty ≤ 1000000 * 4 := Nat.mul_le_mul h2 this
      _ ≤ 536870912 := by decide
  have hat : (gT G)[k - 20]? = some (G.2 k, ty) := by rcases hk with ⟨rfl, rfl, rfl⟩ | ⟨rfl, rfl, rfl⟩ | ⟨rfl, rfl, rfl⟩ <;> rfl
  have hprim : ∀ (cA : ClassId), va_RA s cA ty → s.vm.findClass ("[" ++ ty.toString) = some cA := by
    intro cA h
    rcases hk with ⟨_, rfl, rfl⟩ | ⟨_, rfl, rfl⟩ | ⟨_, rfl, rfl⟩ <;> exact h
  refine va_newa (atype := at') C.1 C.2.1 (by rw [hT]; exact C.2.2.2.2 _ hw) hT hK hP hD hS hA hcell hn0 hcl hby hcs.1 hcs.2 hdg (fun q cA H1 h0 h1 h2 h3 => ?_)
  have hcA : cA = G.2 k := by
    have a1 := hprim cA (h0.2 (gT G).length (cA, ty) (by simp)).2
    have a2 := hprim (G.2 k) (hK.2 (k - 20) _ hat).2
    exact Option.some.inj (a1.symm.trans a2)
  subst hcA
  have hww : wl G ad g m ++ [(q, .inl (G.2 k, N, .inl (fun _ => (0 : Int32))))] = wl G (fun r => if r = (gn g : Int) + 1 then q else ad r) g' m' := by
    subst hg'; subst hm'
    rw [wl_new (ad := ad) hm (fun x hx => by simp [hx])]
    congr 2
    have e1 : gn g = g.1 := rfl
    have z : ∀ j : Nat, mA g m ((gn g : Int) + 1) j = 0 := fun j => by simp [mA, e1]
    rw [eC_arr (gA_k rfl rfl) hk2.1 hk2.2, if_pos rfl, gA_l rfl rfl, hN]
    simp only [z]
    rfl
  rw [hww] at h1 h2
  have := kk _ H1 (aX_up (q := q) hg) ⟨hK, h1, h2, h3, hA, hg2, hm2, hE⟩
  simpa using this
theorem q_newq (C : CallFix p mt c cc nL s args tb own) (S : Wd G A s H0 ad g m H locs) {k idx : Nat} {Cn : String} {n : Int} {N : Nat} (hN : (n.toNat : Nat) = N) (hk : (k = 23 ∧ Cn = RX1) ∨ (k = 24 ∧ Cn = RX9) ∨ (k = 25 ∧ Cn = RX5) ∨ (k = 26 ∧ Cn = RX2)) (hw : Cond.classLink own idx Cn ∈ tb) (hck : gn g < 1000000 ∧ (0 : Int) ≤ n ∧ n < 1000000) (hcs : cells + 1 ≤ R.cells ∧ slots + N ≤ R.slots) (hg' : g' = gA g k n N) (hm' : m' = mA g m) (hdg : decode cc pc = .ok (.anewarray idx, 3))
    (kk : ∀ (ad' : Int → Nat) (H : Heap), aX g ad ad' → Wd G A s H0 ad' g' m' H locs → W p l e R s mt args below meth c H locs (cells + 1) (slots + N) Q (F0 mt (pc + 3) ls (.ref (ad' ((gn g : Int) + 1)) :: rest))) : W p l e R s mt args below meth c H locs cells slots Q (F0 mt pc ls (.int (iI n) :: rest)) := by
  obtain ⟨hK, hP, hD, hS, hA, hg, hm, hE⟩ := S
  have hg2 := gA_ok hg hck hg'
  have hm2 := mA_ok hg hm hg' hm'
  have hcl : (iI n).toNatClampNeg = N := by rw [iI_cl hck.2.1 (by omega), hN]
  have hn0 : ¬ iI n < 0 := fun h => absurd ((iI_lt0 ⟨by omega, by omega⟩).mp h) (by omega)
  have hk2 : 23 ≤ k := by rcases hk with h | h | h | h <;> omega
  have hAO : va_AO Cn s := hE.2 Cn (by rcases hk with ⟨_, rfl⟩ | ⟨_, rfl⟩ | ⟨_, rfl⟩ | ⟨_, rfl⟩ <;> simp)
  have hat : (gT G)[k - 20]? = some (G.2 k, .object Cn) := by rcases hk with ⟨rfl, rfl⟩ | ⟨rfl, rfl⟩ | ⟨rfl, rfl⟩ | ⟨rfl, rfl⟩ <;> rfl
  refine va_newq C.1 C.2.1 C.2.2.2.1 (C.2.2.2.2 _ hw) hAO hK hP hD hS hA hn0 hcl (by omega) hcs.1 hcs.2 hdg (fun q cA H1 h0 h1 h2 h3 => ?_)
  have hcA : cA = G.2 k := by
    obtain ⟨_, _, _, _, _, a1⟩ := (h0.2 (gT G).length (cA, .object Cn) (by simp)).2
    obtain ⟨_, _, _, _, _, a2⟩ := (hK.2 (k - 20) _ hat).2
    exact Option.some.inj (a1.symm.trans a2)
  subst hcA
  have hww : wl G ad g m ++ [(q, .inl (G.2 k, N, .inr (.inr (.inr (.inr (fun _ => none))))))] = wl G (fun r => if r = (gn g : Int) + 1 then q else ad r) g' m' := by
    subst hg'; subst hm'
    rw [wl_new (ad := ad) hm (fun x hx => by simp [hx])]
    congr 2
    have e1 : gn g = g.1 := rfl
    have z : ∀ j : Nat, mA g m ((gn g : Int) + 1) j = 0 := fun j => by simp [mA, e1]
    rw [eC_arq (gA_k rfl rfl) hk2, if_pos rfl, gA_l rfl rfl, hN]
    simp only [z, orf]
    rfl
  rw [hww] at h1 h2
  have := kk _ H1 (aX_up (q := q) hg) ⟨hK, h1, h2, h3, hA, hg2, hm2, hE⟩
  simpa using this
end Alloc
/-! contracts of methods that make cells -/
def QA (G : Gl) (ad : Int → Nat) (g : Shp) (m : Mem) (sz : Nat) (g' : Shp) (m' : Mem) (ad' : Int → Nat) (t : State) : Prop := va_P G.1 vwCl (wl G ad' g' m') t.heap ∧ va_D (va_A (wl G ad g m) sz) (wl G ad' g' m')
def mIA (l : Launch) (y : MethodName) (ws : List Cond) (rm : Nat → Nat → Room) (G : Gl) (bz : Bool) (av : (Int → Nat) → List Value) (g : Shp) (m : Mem) (r : Int) (g' : Shp) (m' : Mem) : Prop :=
  ∀ (ad : Int → Nat) (sz : Nat), Met l y ws (rm (gn g' - gn g) (gs g' - gs g)) (PcS G ad g m sz (av ad)) (va_Qi (fun r0 (ad' : Int → Nat) => r0 = iI r ∧ (r32 r ∧ (bz = true → r = 0 ∨ r = 1)) ∧ gOk g' ∧ mOk g' m' ∧ aX g ad ad') (QA G ad g m sz g' m') (va_A (wl G ad g m) sz)) (gn g' - gn g) (gs g' - gs g) (va_A (wl G ad g m) sz)
def mVA (l : Launch) (y : MethodName) (ws : List Cond) (rm : Nat → Nat → Room) (G : Gl) (av : (Int → Nat) → List Value) (g : Shp) (m : Mem) (g' : Shp) (m' : Mem) : Prop :=
  ∀ (ad : Int → Nat) (sz : Nat), Met l y ws (rm (gn g' - gn g) (gs g' - gs g)) (PcS G ad g m sz (av ad)) (va_Qv (fun (ad' : Int → Nat) => gOk g' ∧ mOk g' m' ∧ aX g ad ad') (QA G ad g m sz g' m') (va_A (wl G ad g m) sz)) (gn g' - gn g) (gs g' - gs g) (va_A (wl G ad g m) sz)
def mRA (l : Launch) (y : MethodName) (ws : List Cond) (rm : Nat → Nat → Room) (G : Gl) (av : (Int → Nat) → List Value) (g : Shp) (m : Mem) (r : Int) (g' : Shp) (m' : Mem) : Prop :=
  ∀ (ad : Int → Nat) (sz : Nat), Met l y ws (rm (gn g' - gn g) (gs g' - gs g)) (PcS G ad g m sz (av ad)) (va_Qr (fun (ad' : Int → Nat) => r32 r ∧ gOk g' ∧ mOk g' m' ∧ aX g ad ad') (fun ad' a t => a = ad' r ∧ QA G ad g m sz g' m' ad' t) (va_A (wl G ad g m) sz)) (gn g' - gn g) (gs g' - gs g) (va_A (wl G ad g m) sz)
section CallsA
variable {p : Program} {l : Launch} {e : Env} {R : Room} {s : State} {mt : MethodId} {args : Array Value} {below : List Frame} {meth : Method} {c : Code} {H : Heap} {locs : List Loc} {cells slots : Nat} {Q : State → Prop}
variable {cc : ByteArray} {pc nL : Nat} {ls : Array Slot} {rest st0 : List Value} {own : String} {G : Gl} {A : Nat → Prop} {H0 : Heap} {ad : Int → Nat} {g g' : Shp} {m m' : Mem}
variable {y : MethodName} {bytes : ByteArray} {maxL idx n mc msl : Nat} {ret : Option FieldType} {rm : Room} {Qc : Array Value → State → Outcome → State → Prop} {free : Addr → Prop} {As : List Value}
theorem run_I (C : CallFix p mt c cc nL s args tb own) (S : Wd G A s H0 ad g m H locs) {rr : Int} (hM : Met l y (wT y bytes maxL none) rm (PcS G ad g m H.size (.ref (ad rr) :: As)) Qc mc msl free) (hcw : Cond.code y bytes maxL none ∈ tb) (hini : Cond.initialized y.cls ∈ tb) (hlk : Cond.methodLink own idx y ∈ tb) (hin : Cond.instanceMethod y ∈ tb) (hy : y.name = "<init>")
    (hd : y.cls ≠ "java/lang/invoke/MethodHandle" ∧ y.cls ≠ "java/lang/invoke/VarHandle" ∧ (parseMethodDescriptor y.desc).map (fun d => d.parameters.length) = some n) (hn : As.length = n) (hR : rm.cells = mc ∧ rm.slots = msl ∧ rm.frames + 1 ≤ R.frames ∧ 8 + (maxL + 11) + rm.locals ≤ R.locals) (hcs : cells + mc ≤ R.cells ∧ slots + msl ≤ R.slots) (hsz : ls.size = nL) (hst : st0 = As.reverse ++ .ref (ad rr) :: rest) (hrm : (rest.map fun v => v.category).sum ≤ 8) (hdg : decode cc pc = .ok (.invokespecial idx, 3)) :
    va_Run p l e R s mt args below meth c H locs cells slots mc msl (F0 mt pc ls st0) rest (Qc (Value.ref (ad rr) :: As).toArray) free :=
  va_runI C hM (cwI n C.2.2.2.2 (wT_good hcw) rfl hR.1 hR.2.1 (C.2.2.2.2 _ hini) (C.2.2.2.2 _ hlk) (C.2.2.2.2 _ hin) hy hd hR.2.2) ⟨PcS_blind, PcS_pre S⟩ rfl hn hsz hst (lv_room hrm) hdg hcs
theorem run_IN (C : CallFix p mt c cc nL s args tb own) (S : Wd G A s H0 ad g m H locs) {rr : Int} (hM : Met l y (wT y bytes maxL none) rm (PcS G ad g m H.size (.ref (ad rr) :: As)) Qc mc msl free) {host : String} (hnst : (own, idx, y, host) ∈ nestQ) (hcw : Cond.code y bytes maxL none ∈ tb) (hini : Cond.initialized y.cls ∈ tb) (hin : Cond.instanceMethod y ∈ tb) (hy : y.name = "<init>")
    (hd : y.cls ≠ "java/lang/invoke/MethodHandle" ∧ y.cls ≠ "java/lang/invoke/VarHandle" ∧ (parseMethodDescriptor y.desc).map (fun d => d.parameters.length) = some n) (hn : As.length = n) (hR : rm.cells = mc ∧ rm.slots = msl ∧ rm.frames + 1 ≤ R.frames ∧ 8 + (maxL + 11) + rm.locals ≤ R.locals) (hcs : cells + mc ≤ R.cells ∧ slots + msl ≤ R.slots) (hsz : ls.size = nL) (hst : st0 = As.reverse ++ .ref (ad rr) :: rest) (hrm : (rest.map fun v => v.category).sum ≤ 8) (hdg : decode cc pc = .ok (.invokespecial idx, 3)) :
    va_Run p l e R s mt args below meth c H locs cells slots mc msl (F0 mt pc ls st0) rest (Qc (Value.ref (ad rr) :: As).toArray) free :=
  va_runIN C hM ⟨va_cnB n C.2.2.2.2 (wT_good hcw) rfl hR.1 hR.2.1 (S.2.2.2.2.2.2.2.1 _ hnst) (C.2.2.2.2 _ hini) hd hR.2.2, hy, C.2.2.2.2 _ hin⟩ ⟨PcS_blind, PcS_pre S⟩ rfl hn hsz hst (lv_room hrm) hdg hcs
theorem q_oinit (C : CallFix p mt c cc nL s args tb own) {a : Nat} (hlk : Cond.methodLink own idx objectInit ∈ tb) (hin : Cond.instanceMethod objectInit ∈ tb) (hcd : Cond.code objectInit ⟨#[0xb1]⟩ 1 none ∈ tb) (hsz : ls.size = nL) (hfr : 1 ≤ R.frames) (hlo : 2 * (F0 mt pc ls (.ref a :: rest)).monitorRoom + (rest.map fun v => v.category).sum + 12 ≤ R.locals) (hdg : decode cc pc = .ok (.invokespecial idx, 3))
    (kk : W p l e R s mt args below meth c H locs cells slots Q (F0 mt (pc + 3) ls rest)) : W p l e R s mt args below meth c H locs cells slots Q (F0 mt pc ls (.ref a :: rest)) :=
  W.objInit C.1 C.2.1 C.2.2.2.1 (C.2.2.2.2 _ hlk) (C.2.2.2.2 _ hin) (C.2.2.2.2 _ hcd) rfl (hsz.trans C.2.2.1.symm) rfl hdg hfr hlo kk
theorem QA_D (S : Wd G A s H0 ad g m H locs) {ad' : Int → Nat} (h : va_D (va_A (wl G ad g m) H.size) (wl G ad' g' m')) : va_D A (wl G ad' g' m') := h.weaken (fun _ _ _ hq => Wd_A S _ hq)
theorem q_ciA (S : Wd G A s H0 ad g m H locs) {a : Array Value} {r : Int} {bz : Bool} (hr : va_Run p l e R s mt args below meth c H locs cells slots mc msl (F0 mt pc ls st0) rest (va_Qi (fun r0 (ad' : Int → Nat) => r0 = iI r ∧ (r32 r ∧ (bz = true → r = 0 ∨ r = 1)) ∧ gOk g' ∧ mOk g' m' ∧ aX g ad ad') (QA G ad g m H.size g' m') (va_A (wl G ad g m) H.size) a) (va_A (wl G ad g m) H.size))
    (kk : ∀ (ad' : Int → Nat) (H : Heap) (locs : List Loc), aX g ad ad' → Wd G A s H0 ad' g' m' H locs → r32 r ∧ (bz = true → r = 0 ∨ r = 1) → W p l e R s mt args below meth c H locs (cells + mc) (slots + msl) Q (F0 mt (pc + 3) ls (.int (iI r) :: rest))) : W p l e R s mt args below meth c H locs cells slots Q (F0 mt pc ls st0) := by
  obtain ⟨hK, hP, hD, hS, hA, hg, hm, hE⟩ := id S
  refine va_calli hr hS (fun q _ h => Wd_A S q h) (Wd_A S) (fun r0 u t H1 locs1 ht hvm hw hB hz1 hk1 hS1 => ?_)
  obtain ⟨rfl, h32, hg1, hm1, hax⟩ := hw
  obtain ⟨hB1, hB2⟩ := hB
  rw [ht] at hB1
  exact kk u H1 locs1 hax ⟨hK, hB1, QA_D S hB2, hS1, hA, hg1, hm1, hE⟩ h32
theorem q_cvA (S : Wd G A s H0 ad g m H locs) {a : Array Value} (hr : va_Run p l e R s mt args below meth c H locs cells slots mc msl (F0 mt pc ls st0) rest (va_Qv (fun (ad' : Int → Nat) => gOk g' ∧ mOk g' m' ∧ aX g ad ad') (QA G ad g m H.size g' m') (va_A (wl G ad g m) H.size) a) (va_A (wl G ad g m) H.size))
    (kk : ∀ (ad' : Int → Nat) (H : Heap) (locs : List Loc), aX g ad ad' → Wd G A s H0 ad' g' m' H locs → W p l e R s mt args below meth c H locs (cells + mc) (slots + msl) Q (F0 mt (pc + 3) ls rest)) : W p l e R s mt args below meth c H locs cells slots Q (F0 mt pc ls st0) := by
  obtain ⟨hK, hP, hD, hS, hA, hg, hm, hE⟩ := id S
  refine va_callv hr hS (fun q _ h => Wd_A S q h) (Wd_A S) (fun u t H1 locs1 ht hvm hw hB hz1 hk1 hS1 => ?_)
  obtain ⟨hg1, hm1, hax⟩ := hw
  obtain ⟨hB1, hB2⟩ := hB
  rw [ht] at hB1
  exact kk u H1 locs1 hax ⟨hK, hB1, QA_D S hB2, hS1, hA, hg1, hm1, hE⟩
theorem q_crA (S : Wd G A s H0 ad g m H locs) {a : Array Value} {r : Int} (hr : va_Run p l e R s mt args below meth c H locs cells slots mc msl (F0 mt pc ls st0) rest (va_Qr (fun (ad' : Int → Nat) => r32 r ∧ gOk g' ∧ mOk g' m' ∧ aX g ad ad') (fun ad' b t => b = ad' r ∧ QA G ad g m H.size g' m' ad' t) (va_A (wl G ad g m) H.size) a) (va_A (wl G ad g m) H.size))
    (kk : ∀ (ad' : Int → Nat) (H : Heap) (locs : List Loc), aX g ad ad' → Wd G A s H0 ad' g' m' H locs → r32 r → W p l e R s mt args below meth c H locs (cells + mc) (slots + msl) Q (F0 mt (pc + 3) ls (.ref (ad' r) :: rest))) : W p l e R s mt args below meth c H locs cells slots Q (F0 mt pc ls st0) := by
  obtain ⟨hK, hP, hD, hS, hA, hg, hm, hE⟩ := id S
  refine va_callr hr hS (fun q _ h => Wd_A S q h) (Wd_A S) (fun u ra t H1 locs1 ht hvm hw hB hz1 hk1 hS1 => ?_)
  obtain ⟨h32, hg1, hm1, hax⟩ := hw
  obtain ⟨rfl, hB1, hB2⟩ := hB
  rw [ht] at hB1
  exact kk u H1 locs1 hax ⟨hK, hB1, QA_D S hB2, hS1, hA, hg1, hm1, hE⟩ h32
end CallsA
theorem met_iA {l : Launch} {y : MethodName} {cc : ByteArray} {maxL : Nat} {ty : FieldType} {rm : Nat → Nat → Room} {G : Gl} {av : (Int → Nat) → List Value} {g g' : Shp} {m m' : Mem} {r : Int} {bz : Bool} (hy : plainName y.cls = true) (hlen : ∀ ad, (lg_sl (av ad)).length ≤ maxL) (hx : gOk g → gX g g')
    (body : ∀ (p : Program) (e : Env) (s : State) (mt : MethodId) (args : Array Value) (below : List Frame) (meth : Method) (c : Code) (Q : State → Prop) (A : Nat → Prop) (H0 H : Heap) (locs : List Loc) (ad : Int → Nat) (ls : Array Slot) (mc msl : Nat), mc = gn g' - gn g → msl = gs g' - gs g → CallFix p mt c cc maxL s args tb y.cls → meth.name = y.name → Wd G A s H0 ad g m H locs → lv_has ls maxL (lv_args 0 (av ad)) →
      (∀ (ad' : Int → Nat) (H : Heap) (locs : List Loc) (pc : Nat) (ls : Array Slot) (cells slots : Nat), aX g ad ad' → gn g' = gn g + cells ∧ gs g' = gs g + slots → Wd G A s H0 ad' g' m' H locs → decode cc pc = .ok (.ireturn, 1) → r32 r ∧ (bz = true → r = 0 ∨ r = 1) → narrow ty (.int (iI r)) = .int (iI r) → W p l e (rm mc msl) s mt args below meth c H locs cells slots Q (F0 mt pc ls [.int (iI r)])) → W p l e (rm mc msl) s mt args below meth c H locs 0 0 Q (F0 mt 0 ls [])) : mIA l y (wT y cc maxL (some ty)) rm G bz av g m r g' m' := by
  intro ad sz
  refine Met.ofW (cc := cc) (maxL := maxL) (ret := (some ty)) hy rfl ?_
  intro p e s mt args below meth c s₁ B hml hv
  obtain ⟨rfl, rfl, hK, hP, hD, hg, hm, hE⟩ := hv
  have hts := atoms_spec (ws := wT y cc maxL (some ty)) B.pre
  have hlocks := B.notSynchronized
  have hret := B.returns
  have C : CallFix p mt c cc maxL s (av ad).toArray tb y.cls := ⟨B.exec, B.bytes, hml, findClass_of_methodNamed B.named, fun w h => hts w (List.mem_cons_of_mem _ h)⟩
  have hl := lv_entry (av ad) (n := maxL) (hlen ad)
  rw [lg_entry_eq]
  refine body p e s mt _ below meth c _ (va_A (wl G ad g m) s.heap.size) s.heap s.heap [] ad _ _ _ rfl rfl C (name_of_methodNamed B.named B.method).1 ⟨hK, hP, hD.self, va_S.rf, fun q h => Or.inr h, hg, hm, hE⟩ hl (fun ad' H locs pc ls cells slots hax hcs S hdg hr hnr => ?_)
  obtain ⟨hK1, hP1, hD1, hS1, hA1, hg1, hm1, hE1⟩ := S
  have e1 : gn g' - gn g = cells := by omega
  have e2 : gs g' - gs g = slots := by omega
  rw [e1, e2]
  exact W.zret B.exec B.bytes hret hnr (fun t ht hW => ⟨⟨iI r, ad', rfl, ⟨rfl, hr, hg1, hm1, hax⟩, by show va_P _ _ _ t.heap; rw [ht]; exact hP1, hD1⟩, hS1.F ht⟩) hS1.2.2 hdg
theorem met_vA {l : Launch} {y : MethodName} {cc : ByteArray} {maxL : Nat} {rm : Nat → Nat → Room} {G : Gl} {av : (Int → Nat) → List Value} {g g' : Shp} {m m' : Mem} (hy : plainName y.cls = true) (hlen : ∀ ad, (lg_sl (av ad)).length ≤ maxL) (hx : gOk g → gX g g')
    (body : ∀ (p : Program) (e : Env) (s : State) (mt : MethodId) (args : Array Value) (below : List Frame) (meth : Method) (c : Code) (Q : State → Prop) (A : Nat → Prop) (H0 H : Heap) (locs : List Loc) (ad : Int → Nat) (ls : Array Slot) (mc msl : Nat), mc = gn g' - gn g → msl = gs g' - gs g → CallFix p mt c cc maxL s args tb y.cls → meth.name = y.name → Wd G A s H0 ad g m H locs → lv_has ls maxL (lv_args 0 (av ad)) →
      (∀ (ad' : Int → Nat) (H : Heap) (locs : List Loc) (pc : Nat) (ls : Array Slot) (cells slots : Nat), aX g ad ad' → gn g' = gn g + cells ∧ gs g' = gs g + slots → Wd G A s H0 ad' g' m' H locs → decode cc pc = .ok (.return_, 1) → W p l e (rm mc msl) s mt args below meth c H locs cells slots Q (F0 mt pc ls [])) → W p l e (rm mc msl) s mt args below meth c H locs 0 0 Q (F0 mt 0 ls [])) : mVA l y (wT y cc maxL none) rm G av g m g' m' := by
  intro ad sz
  refine Met.ofW (cc := cc) (maxL := maxL) (ret := none) hy rfl ?_
  intro p e s mt args below meth c s₁ B hml hv
  obtain ⟨rfl, rfl, hK, hP, hD, hg, hm, hE⟩ := hv
  have hts := atoms_spec (ws := wT y cc maxL none) B.pre
  have hlocks := B.notSynchronized
  have hret := B.returns
  have C : CallFix p mt c cc maxL s (av ad).toArray tb y.cls := ⟨B.exec, B.bytes, hml, findClass_of_methodNamed B.named, fun w h => hts w (List.mem_cons_of_mem _ h)⟩
  have hl := lv_entry (av ad) (n := maxL) (hlen ad)
  rw [lg_entry_eq]
  refine body p e s mt _ below meth c _ (va_A (wl G ad g m) s.heap.size) s.heap s.heap [] ad _ _ _ rfl rfl C (name_of_methodNamed B.named B.method).1 ⟨hK, hP, hD.self, va_S.rf, fun q h => Or.inr h, hg, hm, hE⟩ hl (fun ad' H locs pc ls cells slots hax hcs S hdg => ?_)
  obtain ⟨hK1, hP1, hD1, hS1, hA1, hg1, hm1, hE1⟩ := S
  have e1 : gn g' - gn g = cells := by omega
  have e2 : gs g' - gs g = slots := by omega
  rw [e1, e2]
  exact W.vret B.exec B.bytes hret (fun t ht hW => ⟨⟨ad', rfl, ⟨hg1, hm1, hax⟩, by show va_P _ _ _ t.heap; rw [ht]; exact hP1, hD1⟩, hS1.F ht⟩) hS1.2.2 hdg
theorem met_rA {l : Launch} {y : MethodName} {cc : ByteArray} {maxL : Nat} {cn : String} {rm : Nat → Nat → Room} {G : Gl} {av : (Int → Nat) → List Value} {g g' : Shp} {m m' : Mem} {r : Int} (hy : plainName y.cls = true) (hlen : ∀ ad, (lg_sl (av ad)).length ≤ maxL) (hx : gOk g → gX g g')
    (body : ∀ (p : Program) (e : Env) (s : State) (mt : MethodId) (args : Array Value) (below : List Frame) (meth : Method) (c : Code) (Q : State → Prop) (A : Nat → Prop) (H0 H : Heap) (locs : List Loc) (ad : Int → Nat) (ls : Array Slot) (mc msl : Nat), mc = gn g' - gn g → msl = gs g' - gs g → CallFix p mt c cc maxL s args tb y.cls → meth.name = y.name → Wd G A s H0 ad g m H locs → lv_has ls maxL (lv_args 0 (av ad)) →
      (∀ (ad' : Int → Nat) (H : Heap) (locs : List Loc) (pc : Nat) (ls : Array Slot) (cells slots : Nat), aX g ad ad' → gn g' = gn g + cells ∧ gs g' = gs g + slots → Wd G A s H0 ad' g' m' H locs → decode cc pc = .ok (.areturn, 1) → r32 r → W p l e (rm mc msl) s mt args below meth c H locs cells slots Q (F0 mt pc ls [.ref (ad' r)])) → W p l e (rm mc msl) s mt args below meth c H locs 0 0 Q (F0 mt 0 ls [])) : mRA l y (wT y cc maxL (some (.object cn))) rm G av g m r g' m' := by
  intro ad sz
  refine Met.ofW (cc := cc) (maxL := maxL) (ret := (some (.object cn))) hy rfl ?_
  intro p e s mt args below meth c s₁ B hml hv
  obtain ⟨rfl, rfl, hK, hP, hD, hg, hm, hE⟩ := hv
  have hts := atoms_spec (ws := wT y cc maxL (some (.object cn))) B.pre
  have hlocks := B.notSynchronized
  have hret := B.returns
  have C : CallFix p mt c cc maxL s (av ad).toArray tb y.cls := ⟨B.exec, B.bytes, hml, findClass_of_methodNamed B.named, fun w h => hts w (List.mem_cons_of_mem _ h)⟩
  have hl := lv_entry (av ad) (n := maxL) (hlen ad)
  rw [lg_entry_eq]
  refine body p e s mt _ below meth c _ (va_A (wl G ad g m) s.heap.size) s.heap s.heap [] ad _ _ _ rfl rfl C (name_of_methodNamed B.named B.method).1 ⟨hK, hP, hD.self, va_S.rf, fun q h => Or.inr h, hg, hm, hE⟩ hl (fun ad' H locs pc ls cells slots hax hcs S hdg hr => ?_)
  obtain ⟨hK1, hP1, hD1, hS1, hA1, hg1, hm1, hE1⟩ := S
  have e1 : gn g' - gn g = cells := by omega
  have e2 : gs g' - gs g = slots := by omega
  rw [e1, e2]
  exact W.aret B.exec B.bytes hret (Or.inl ⟨cn, rfl⟩) (Or.inr ⟨_, rfl⟩) (fun t ht hW => ⟨⟨ad', ad' r, rfl, ⟨hr, hg1, hm1, hax⟩, rfl, by show va_P _ _ _ t.heap; rw [ht]; exact hP1, hD1⟩, hS1.F ht⟩) hS1.2.2 hdg
theorem if_ok {α : Type} {c : Prop} [Decidable c] {a b : Option α} {y : α} (h : (if c then a else b) = some y) : (c ∧ a = some y) ∨ (¬ c ∧ b = some y) := by
  by_cases hc : c
  · rw [if_pos hc] at h; exact Or.inl ⟨hc, h⟩
  · rw [if_neg hc] at h; exact Or.inr ⟨hc, h⟩
theorem gX2 {g g1 g2 : Shp} (h : gX g g1) (h2 : gX g1 g2 ∧ gOk g2) : gX g g2 ∧ gOk g2 := ⟨h.tr h2.1, h2.2⟩
theorem aX.tr {g g1 : Shp} {a b c : Int → Nat} (h : aX g a b) (hx : gX g g1) (h2 : aX g1 b c) : aX g a c := fun r hr => (h2 r (by rw [(hx.2.2 r hr).1]; exact hr)).trans (h r hr)
theorem gA_n {g g' : Shp} {k sl : Nat} {len : Int} (h : g' = gA g k len sl) : gn g' = gn g + 1 ∧ gs g' = gs g + sl := by
  subst h
  exact ⟨rfl, rfl⟩
theorem Wd.g {G A s H0 ad g m H locs} (S : Wd G A s H0 ad g m H locs) : gOk g := S.2.2.2.2.2.1
