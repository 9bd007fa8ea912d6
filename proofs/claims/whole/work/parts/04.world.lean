/-! ===== how the store lies in the machine's heap ===== -/
/-- the words that every method is given -/
def tb : List Cond := lw_tbl.filter goodWord
theorem tb_of {w : Cond} (h : w ∈ lw_tbl) (hg : goodWord w = true) : w ∈ tb := List.mem_filter.mpr ⟨h, hg⟩
/-- a word by its place -/
theorem tb_at (i : Nat) {w : Cond} (h : lw_tbl[i]? = some w) (hg : goodWord w = true) : w ∈ tb := tb_of (List.mem_of_getElem? h) hg
def nestQ : List (String × Nat × MethodName × String) := [("StoneFloors", 11, ⟨"StoneFloors$Reader", "<init>", "()V"⟩, "StoneFloors"), ("StoneFloors$Finder", 13, ⟨"StoneFloors$Pieces", "<init>", "()V"⟩, "StoneFloors"), ("StoneFloors$Finder", 34, ⟨"StoneFloors$Layings", "<init>", "()V"⟩, "StoneFloors"), ("StoneFloors", 25, ⟨"StoneFloors$Floor", "<init>", "()V"⟩, "StoneFloors"), ("StoneFloors$Past", 17, ⟨"StoneFloors$Floor", "<init>", "()V"⟩, "StoneFloors"), ("StoneFloors$Orders", 29, ⟨"StoneFloors$Way", "<init>", "()V"⟩, "StoneFloors"), ("StoneFloors$Orders", 34, ⟨"StoneFloors$Floor", "<init>", "()V"⟩, "StoneFloors"), ("StoneFloors$Plan", 27, ⟨"StoneFloors$Path", "<init>", "()V"⟩, "StoneFloors"), ("StoneFloors", 60, ⟨"StoneFloors$Way", "<init>", "()V"⟩, "StoneFloors"), ("StoneFloors$Reader", 67, ⟨"StoneFloors", "isColour", "(I)Z"⟩, "StoneFloors"), ("StoneFloors$Path", 35, ⟨"StoneFloors", "isOnGround", "(II)Z"⟩, "StoneFloors")]
/-- what else is said of the tables: the nest's links, the classes of the arrays of objects -/
def Ex (U : State) : Prop := (∀ q ∈ nestQ, va_Nw (.methodLinkNest q.1 q.2.1 q.2.2.1 q.2.2.2) U) ∧ ∀ C ∈ [RX1, RX9, RX5, RX2], va_AO C U
theorem Ex.warm {s U : State} (h : Ex s) (hW : s.WarmedH U.vm) : Ex U := ⟨fun q hq => va_Nw.warmM hW (h.1 q hq), fun C hC => (h.2 C hC).moved hW.alike⟩
theorem Ex.same {s U : State} (h : Ex s) (hW : s.vm = U.vm) : Ex U := ⟨fun q hq => va_Nw.same rfl hW (h.1 q hq), fun C hC => (h.2 C hC).moved (by rw [hW]; exact Vm.Alike.refl U.vm)⟩
abbrev Gl : Type := va_G × (Nat → ClassId)
def kN (k : Nat) : Nat := match vwCl[k - 1]? with
  | some q => q.2.2
  | none => 0
/-- which fields are references -/
def isRefD (d : String) : Bool := d.startsWith "L" || d.startsWith "["
def kRs : List (List Nat) := [[0, 1, 2, 3, 4], [0, 1, 2, 3, 4, 5, 6], [0, 1], [0, 1, 2, 3, 4], [0], [0, 1], [0, 1], [0, 1, 2, 3], [0, 1], [0, 1, 2], [0, 1, 2, 3, 4, 5, 6, 7], [0, 1, 2, 4, 7, 9, 11, 12, 13, 14, 19, 21, 22, 23, 24, 25, 26, 28, 29, 30, 31, 32, 33, 34, 37, 38]]
def kRef (k j : Nat) : Bool := ((kRs[k - 1]?).getD []).contains j
/-- places that hold references -/
def isRs (k : Nat) (j : Int) : Prop := (k < 20 ∧ kRef k j.toNat = true) ∨ 23 ≤ k
/-- all numbers are ints, and references are of cells that there are -/
def mOk (g : Shp) (m : Mem) : Prop := (∀ r j, r32 (m r j)) ∧ ∀ r j, isRs (gk g r) j → 0 ≤ m r j ∧ m r j ≤ gn g
theorem mOk.s {g : Shp} {m : Mem} (h : mOk g m) {r j v : Int} (hv : r32 v) (hn : ¬ isRs (gk g r) j) : mOk g (ms m r j v) := by
  refine ⟨fun a b => ?_, fun a b hab => ?_⟩
  · unfold ms
    split
    · exact hv
    · exact h.1 a b
  · unfold ms
    split
    · rename_i q
      rw [q.1, q.2] at hab
      exact absurd hab hn
    · exact h.2 a b hab
theorem mOk.sr {g : Shp} {m : Mem} (h : mOk g m) (hg : gOk g) {r j v : Int} (hv : gk g v ≠ 0) : mOk g (ms m r j v) := by
  have h1 := hg.1 v hv
  have h2 := hg.2.1
  refine ⟨fun a b => ?_, fun a b hab => ?_⟩
  · unfold ms
    split
    · exact ⟨by omega, by omega⟩
    · exact h.1 a b
  · unfold ms
    split
    · exact ⟨by omega, by omega⟩
    · exact h.2 a b hab
theorem mOk.cp {g : Shp} {m : Mem} (h : mOk g m) {s sp d dp n : Int} (hd : gk g d = 20) : mOk g (mcp m s sp d dp n) := by
  refine ⟨fun a b => ?_, fun a b hab => ?_⟩
  · unfold mcp
    split <;> exact h.1 _ _
  · unfold mcp
    split
    · rename_i q
      rw [q.1, hd] at hab
      rcases hab with hab | hab <;> omega
    · exact h.2 a b hab
theorem nRs {k : Nat} (h1 : 20 ≤ k) (h2 : k < 23) (j : Int) : ¬ isRs k j := fun h => by rcases h with h | h <;> omega
def orf (ad : Int → Nat) (x : Int) : Option Nat := if x = 0 then none else some (ad x)
def fE (ad : Int → Nat) (m : Mem) (r : Int) (k j : Nat) : Value := if kRef k j = true then va_rf (orf ad (m r j)) else .int (iI (m r j))
def eC (G : Gl) (ad : Int → Nat) (g : Shp) (m : Mem) (r : Int) : va_E :=
  if gk g r < 20 then .inr (gk g r - 1, (List.range (kN (gk g r))).map (fE ad m r (gk g r)))
  else .inl (G.2 (gk g r), (gl g r).toNat, if gk g r < 23 then .inl (fun j => iI (m r (j : Int))) else .inr (.inr (.inr (.inr (fun j => orf ad (m r (j : Int)))))))
def wl (G : Gl) (ad : Int → Nat) (g : Shp) (m : Mem) : va_W := (List.range (gn g)).map (fun k : Nat => (ad ((k : Int) + 1), eC G ad g m ((k : Int) + 1)))
def gT (G : Gl) : List (ClassId × FieldType) := [(G.2 20, .int), (G.2 21, .boolean), (G.2 22, .char), (G.2 23, .object RX1), (G.2 24, .object RX9), (G.2 25, .object RX5), (G.2 26, .object RX2)]
theorem wl_at {G : Gl} {ad : Int → Nat} {g : Shp} {m : Mem} {r : Int} (hg : gOk g) (hk : gk g r ≠ 0) : (wl G ad g m)[(r - 1).toNat]? = some (ad r, eC G ad g m r) := by
  obtain ⟨h1, h2⟩ := hg.1 r hk
  have h3 : (r - 1).toNat < gn g := by omega
  have h4 : (((r - 1).toNat : Nat) : Int) + 1 = r := by omega
  generalize (r - 1).toNat = i at h3 h4 ⊢
  simp [wl, h3, h4]
theorem wl_set {G : Gl} {ad : Int → Nat} {g : Shp} {m m' : Mem} {r : Int} {e : va_E} (hr : 1 ≤ r) (h1 : eC G ad g m' r = e) (h2 : ∀ q, q ≠ r → eC G ad g m' q = eC G ad g m q) : (wl G ad g m).set (r - 1).toNat (ad r, e) = wl G ad g m' := by
  apply List.ext_getElem?
  intro k
  have h4 : (((r - 1).toNat : Nat) : Int) + 1 = r := by omega
  generalize (r - 1).toNat = i at h4 ⊢
  rw [List.getElem?_set]
  by_cases hk : i = k
  · subst hk
    by_cases hb : i < gn g
    · simp [wl, hb, h4, h1]
    · simp [wl, hb]
  · rw [if_neg hk]
    by_cases hb : k < gn g
    · have hne : (k : Int) + 1 ≠ r := by omega
      simp [wl, hb, h2 _ hne]
    · simp [wl, hb]
theorem eC_ms {G : Gl} {ad : Int → Nat} {g : Shp} {m : Mem} {r j v : Int} : ∀ q, q ≠ r → eC G ad g (ms m r j v) q = eC G ad g m q := by
  intro q hq
  have h : ∀ x, ms m r j v q x = m q x := fun x => ms_ne (fun h => hq h.1)
  unfold eC
  have h2 : fE ad (ms m r j v) q = fE ad m q := by
    funext k i
    simp [fE, h]
  rw [h2]
  simp [h]
theorem eC_cp {G : Gl} {ad : Int → Nat} {g : Shp} {m : Mem} {s sp d dp n : Int} : ∀ q, q ≠ d → eC G ad g (mcp m s sp d dp n) q = eC G ad g m q := by
  intro q hq
  have h : ∀ x, mcp m s sp d dp n q x = m q x := fun x => by simp [mcp, hq]
  unfold eC
  have h2 : fE ad (mcp m s sp d dp n) q = fE ad m q := by
    funext k i
    simp [fE, h]
  rw [h2]
  simp [h]
/-- the state of the walk: the tables, the store in the heap, what may be written -/
def Wd (G : Gl) (A : Nat → Prop) (s : State) (H0 : Heap) (ad : Int → Nat) (g : Shp) (m : Mem) (H : Heap) (locs : List Loc) : Prop :=
  va_K G.1 vwCl (gT G) s ∧ va_P G.1 vwCl (wl G ad g m) H ∧ va_D A (wl G ad g m) ∧ va_S A H0 H locs ∧ (∀ q, H0.size ≤ q → A q) ∧ gOk g ∧ mOk g m ∧ Ex s
theorem Wd.k {G A s H0 ad g m H locs} (S : Wd G A s H0 ad g m H locs) {r : Int} {k : Nat} (h : gk g r = k) (h0 : 0 < k) : r32 r := by
  have h1 := S.2.2.2.2.2.1.1 r (by omega)
  have h2 := S.2.2.2.2.2.1.2.1
  exact ⟨by omega, by omega⟩
theorem Wd.r {G A s H0 ad g m H locs} (S : Wd G A s H0 ad g m H locs) (r j : Int) : r32 (m r j) := S.2.2.2.2.2.2.1.1 r j
/-- a field's words: own class, constant, kind, place -/
def FOK (own : String) (idx k j : Nat) : Prop := ∃ (C : String) (T : u_T) (N : Nat), vwCl[k - 1]? = some (C, T, N) ∧ (∀ w ∈ u_ws C T N, w ∈ tb) ∧ j < N ∧ (1 ≤ k ∧ k < 20) ∧ Cond.fieldLink own idx (T j).1 (T j).2.1 (T j).2.2.1 ∈ tb
/-- for writing: the types of the fields, their names apart -/
def FPK (k j : Nat) (fin : Bool) (ty : FieldType) : Prop := ∃ (C : String) (T : u_T) (N : Nat), vwCl[k - 1]? = some (C, T, N) ∧ (∃ ty0 : Nat → FieldType, (∀ i, i < N → parseFieldDescriptor (T i).2.2.1 = some (ty0 i)) ∧ ty0 j = ty) ∧ (∀ a, a < N → ∀ b, b < N → a ≠ b → (T a).2.1 ≠ (T b).2.1) ∧ (T j).2.2.2 = fin ∧ (T j).1 = C
section Rows
variable {p : Program} {l : Launch} {e : Env} {R : Room} {s : State} {mt : MethodId} {args : Array Value} {below : List Frame} {meth : Method} {c : Code} {H : Heap} {locs : List Loc} {cells slots : Nat} {Q : State → Prop}
variable {cc : ByteArray} {pc nL : Nat} {ls : Array Slot} {rest : List Value} {own : String} {G : Gl} {A : Nat → Prop} {H0 : Heap} {ad : Int → Nat} {g : Shp} {m : Mem}
theorem eC_obj {r : Int} {k : Nat} (hk : gk g r = k) (h20 : k < 20) : eC G ad g m r = .inr (k - 1, (List.range (kN k)).map (fE ad m r k)) := by
  unfold eC
  rw [hk, if_pos h20]
theorem kN_of {k N : Nat} {C : String} {T : u_T} (h : vwCl[k - 1]? = some (C, T, N)) : kN k = N := by
  unfold kN
  rw [h]
theorem fld_at {r : Int} {k j : Nat} (hj : j < kN k) : ((List.range (kN k)).map (fE ad m r k))[j]? = some (fE ad m r k j) := by simp [hj]
theorem q_geti (C : CallFix p mt c cc nL s args tb own) (S : Wd G A s H0 ad g m H locs) {r : Int} {k idx : Nat} (jn : Nat) (F : FOK own idx k jn) {j : Int} (hj : (jn : Int) = j) (hn : kRef k jn = false) (hk : gk g r = k) (hdg : decode cc pc = .ok (.getfield idx, 3))
    (kk : W p l e R s mt args below meth c H locs cells slots Q (F0 mt (pc + 3) ls (.int (iI (m r j)) :: rest))) : W p l e R s mt args below meth c H locs cells slots Q (F0 mt pc ls (.ref (ad r) :: rest)) := by
  obtain ⟨C0, T, N, hc, hin, hjN, hk1, hw⟩ := F
  obtain ⟨hK, hP, hD, hS, hA, hg, hm, hE⟩ := S
  have hat := wl_at (G := G) (ad := ad) (m := m) hg (r := r) (by omega)
  rw [eC_obj hk hk1.2] at hat
  refine va_get (D := G.1) C.1 C.2.1 C.2.2.2.2 hin C.2.2.2.1 hK hP _ hat hc jn hjN (C.2.2.2.2 _ hw) (fun _ h9 => h9) (fld_at (by rw [kN_of hc]; exact hjN)) hdg ?_
  subst hj
  simpa [fE, hn] using kk
theorem q_getr (C : CallFix p mt c cc nL s args tb own) (S : Wd G A s H0 ad g m H locs) {r : Int} {k idx : Nat} (jn : Nat) (F : FOK own idx k jn) {j : Int} (hj : (jn : Int) = j) (hn : kRef k jn = true) (hk : gk g r = k) {kt : Nat} (ht : gk g (m r j) = kt) (h0 : 0 < kt) (hdg : decode cc pc = .ok (.getfield idx, 3))
    (kk : W p l e R s mt args below meth c H locs cells slots Q (F0 mt (pc + 3) ls (.ref (ad (m r j)) :: rest))) : W p l e R s mt args below meth c H locs cells slots Q (F0 mt pc ls (.ref (ad r) :: rest)) := by
  obtain ⟨C0, T, N, hc, hin, hjN, hk1, hw⟩ := F
  obtain ⟨hK, hP, hD, hS, hA, hg, hm, hE⟩ := S
  have hat := wl_at (G := G) (ad := ad) (m := m) hg (r := r) (by omega)
  rw [eC_obj hk hk1.2] at hat
  refine va_get (D := G.1) C.1 C.2.1 C.2.2.2.2 hin C.2.2.2.1 hK hP _ hat hc jn hjN (C.2.2.2.2 _ hw) (fun _ h9 => h9) (fld_at (by rw [kN_of hc]; exact hjN)) hdg ?_
  subst hj
  have hne : m r (jn : Int) ≠ 0 := fun h => by
    rw [h] at ht
    have := hg.1 0 (by omega)
    omega
  simpa [fE, hn, orf, hne, va_rf] using kk
theorem fld_set {r v : Int} {k jn : Nat} (x : Value) (hx : (if kRef k jn = true then va_rf (orf ad v) else .int (iI v)) = x) : ((List.range (kN k)).map (fE ad m r k)).set jn x = (List.range (kN k)).map (fE ad (ms m r jn v) r k) := by
  apply List.ext_getElem?
  intro i
  rw [List.getElem?_set]
  by_cases hi : jn = i
  · subst hi
    by_cases hb : jn < kN k
    · simp [hb, fE, ms_at, ← hx]
    · simp [hb]
  · rw [if_neg hi]
    by_cases hb : i < kN k
    · have : ms m r jn v r i = m r i := ms_ne (by omega)
      simp [hb, fE, this]
    · simp [hb]
theorem q_put (C : CallFix p mt c cc nL s args tb own) (S : Wd G A s H0 ad g m H locs) {r v : Int} {k idx : Nat} (jn : Nat) (F : FOK own idx k jn) {ty : FieldType} {fin : Bool} (P : FPK k jn fin ty) (hfn : fin = true → meth.name = "<init>" ∧ (vwCl[k - 1]?).map (fun q => q.1) = some own) {j : Int} (hj : (jn : Int) = j) (hk : gk g r = k) {x : Value} (hx : (if kRef k jn = true then va_rf (orf ad v) else .int (iI v)) = x) (hnr : narrow ty x = x) (hft : fits ty x = true) (hv : r32 v) (hvr : kRef k jn = true → gk g v ≠ 0) {m' : Mem} (hm' : m' = ms m r j v) (hdg : decode cc pc = .ok (.putfield idx, 3))
    (kk : ∀ (H : Heap) (locs : List Loc), Wd G A s H0 ad g m' H locs → W p l e R s mt args below meth c H locs cells slots Q (F0 mt (pc + 3) ls rest)) : W p l e R s mt args below meth c H locs cells slots Q (F0 mt pc ls (x :: .ref (ad r) :: rest)) := by
  subst hm'
  obtain ⟨C0, T, N, hc, hin, hjN, hk1, hw⟩ := F
  obtain ⟨C1, T1, N1, hc1, ⟨ty0, hty, hty0⟩, hnm, hfi, hdc⟩ := P
  cases hc.symm.trans hc1
  obtain ⟨hK, hP, hD, hS, hA, hg, hm, hE⟩ := S
  have hat := wl_at (G := G) (ad := ad) (m := m) hg (r := r) (by omega)
  rw [eC_obj hk hk1.2] at hat
  have hr1 : 1 ≤ r := (hg.1 r (by omega)).1
  have hset : (wl G ad g m).set (r - 1).toNat (ad r, .inr (k - 1, ((List.range (kN k)).map (fE ad m r k)).set jn x)) = wl G ad g (ms m r jn v) := by
    rw [fld_set x hx]
    exact wl_set hr1 (eC_obj hk hk1.2) eC_ms
  subst hj
  have hlen : jn < ((List.range (kN k)).map (fE ad m r k)).length := by rw [List.length_map, List.length_range, kN_of hc]; exact hjN
  have hd : parseFieldDescriptor (T jn).2.2.1 = some ty := by rw [← hty0]; exact hty jn hjN
  have hm2 : mOk g (ms m r jn v) := by
    cases hR : kRef k jn with
    | false => exact hm.s hv (fun h => by
        rw [hk] at h
        rcases h with h | h
        · rw [Int.toNat_natCast, hR] at h
          exact absurd h.2 (by decide)
        · omega)
    | true => exact hm.sr hg (hvr hR)
  cases fin with
  | false =>
    refine va_put (D := G.1) C.1 C.2.1 C.2.2.2.2 hin ty0 hty hnm C.2.2.2.1 hK hP hD hS _ hat hc jn hjN (C.2.2.2.2 _ hw) (fun _ h9 => h9) hfi hd hnr hft hlen hdg (fun H1 locs1 h1 h2 h3 => ?_)
    rw [hset] at h1 h2
    exact kk H1 locs1 ⟨hK, h1, h2, h3, hA, hg, hm2, hE⟩
  | true =>
    obtain ⟨hin2, how⟩ := hfn rfl
    rw [hc] at how
    have how : C0 = own := Option.some.inj how
    refine va_putF (D := G.1) C.1 C.2.1 C.2.2.2.2 hin ty0 hty hnm C.2.2.2.1 hK hP hD hS _ hat hc jn hjN (C.2.2.2.2 _ hw) (fun _ h9 => h9) hfi hin2 (hdc.trans how) hd hnr hft hlen hdg (fun H1 locs1 h1 h2 h3 => ?_)
    rw [hset] at h1 h2
    exact kk H1 locs1 ⟨hK, h1, h2, h3, hA, hg, hm2, hE⟩
end Rows
theorem Wd.l {G A s H0 ad g m H locs} (S : Wd G A s H0 ad g m H locs) (r : Int) : r32 (gl g r) := by
  have h := S.2.2.2.2.2.1.2.2 r
  exact ⟨by omega, by omega⟩
theorem orf_ok {G A s H0 ad g m H locs} (S : Wd G A s H0 ad g m H locs) {kk jn : Nat} {v : Int} {k : Nat} (hk : gk g v = k) (h0 : 0 < k) (hR : kRef kk jn = true) : (if kRef kk jn = true then va_rf (orf ad v) else .int (iI v)) = .ref (ad v) := by
  have h1 := S.2.2.2.2.2.1.1 v (by omega)
  have hne : v ≠ 0 := by omega
  simp [hR, orf, hne, va_rf]
theorem kz {g : Shp} {r : Int} {k : Nat} (h : gk g r = k) (h0 : 0 < k) : gk g r ≠ 0 := by omega
