/-! ===== contracts over the store, calls ===== -/
def wT (y : MethodName) (bytes : ByteArray) (maxL : Nat) (ret : Option FieldType) : List Cond := Cond.code y bytes maxL ret :: tb
theorem tb_good : GoodIn tb tb := fun w h => ⟨h, good_of_word (List.mem_filter.mp h).2⟩
theorem wT_good {y : MethodName} {bytes : ByteArray} {maxL : Nat} {ret : Option FieldType} (h : Cond.code y bytes maxL ret ∈ tb) : GoodIn tb (wT y bytes maxL ret) := fun w hw => by
  rcases List.mem_cons.mp hw with rfl | h2
  · exact tb_good _ h
  · exact tb_good _ h2
theorem good_app {a b : List Cond} (ha : ∀ w ∈ a, w ∈ tb) (hb : GoodIn tb b) : GoodIn tb (a ++ b) := fun w h => by
  rcases List.mem_append.mp h with h | h
  · exact tb_good _ (ha w h)
  · exact hb w h
theorem in3 {P : Cond → Prop} {a b c : Cond} (ha : P a) (hb : P b) (hc : P c) : ∀ w ∈ [a, b, c], P w := by
  intro w h
  simp only [List.mem_cons, List.not_mem_nil, or_false] at h
  rcases h with rfl | rfl | rfl <;> assumption
theorem in4 {P : Cond → Prop} {a b c d : Cond} (ha : P a) (hb : P b) (hc : P c) (hd : P d) : ∀ w ∈ [a, b, c, d], P w := by
  intro w h
  simp only [List.mem_cons, List.not_mem_nil, or_false] at h
  rcases h with rfl | rfl | rfl | rfl <;> assumption
def PcS (G : Gl) (ad : Int → Nat) (g : Shp) (m : Mem) (sz : Nat) (av : List Value) : Array Value → State → Prop :=
  va_Pc av (fun U => U.heap.size = sz ∧ va_K G.1 vwCl (gT G) U ∧ va_P G.1 vwCl (wl G ad g m) U.heap ∧ va_D (fun _ => True) (wl G ad g m) ∧ gOk g ∧ mOk g m ∧ Ex U)
/-- the addresses of the old cells stay -/
def aX (g : Shp) (ad ad' : Int → Nat) : Prop := ∀ r, gk g r ≠ 0 → ad' r = ad r
/-- the old cells keep their kinds and lengths, and there are no fewer -/
def gX (g g' : Shp) : Prop := gn g ≤ gn g' ∧ gs g ≤ gs g' ∧ ∀ r, gk g r ≠ 0 → gk g' r = gk g r ∧ gl g' r = gl g r
theorem gX.rf (g : Shp) : gX g g := ⟨Nat.le_refl _, Nat.le_refl _, fun _ _ => ⟨rfl, rfl⟩⟩
theorem gX.tr {g g' g'' : Shp} (h : gX g g') (h2 : gX g' g'') : gX g g'' := ⟨Nat.le_trans h.1 h2.1, Nat.le_trans h.2.1 h2.2.1, fun r hr => by
  obtain ⟨a, b⟩ := h.2.2 r hr
  obtain ⟨a2, b2⟩ := h2.2.2 r (by rw [a]; exact hr)
  exact ⟨a2.trans a, b2.trans b⟩⟩
theorem gX.k {g g' : Shp} (h : gX g g') {r : Int} {k : Nat} (hk : gk g r = k) (h0 : 0 < k) : gk g' r = k := by rw [(h.2.2 r (by omega)).1, hk]
theorem gX.l {g g' : Shp} (h : gX g g') {r : Int} {k : Nat} (hk : gk g r = k) (h0 : 0 < k) : gl g' r = gl g r := (h.2.2 r (by omega)).2
/-- an int comes back; shape and store as told -/
def mI (l : Launch) (y : MethodName) (ws : List Cond) (rm : Room) (G : Gl) (bz : Bool) (av : (Int → Nat) → List Value) (g : Shp) (m : Mem) (r : Int) (m' : Mem) : Prop :=
  ∀ (ad : Int → Nat) (sz : Nat), Met l y ws rm (PcS G ad g m sz (av ad)) (va_Qi (fun r0 (_ : Unit) => r0 = iI r ∧ (r32 r ∧ (bz = true → r = 0 ∨ r = 1)) ∧ mOk g m') (fun _ t => va_P G.1 vwCl (wl G ad g m') t.heap) (va_A (wl G ad g m) sz)) 0 0 (va_A (wl G ad g m) sz)
def mV (l : Launch) (y : MethodName) (ws : List Cond) (rm : Room) (G : Gl) (av : (Int → Nat) → List Value) (g : Shp) (m m' : Mem) : Prop :=
  ∀ (ad : Int → Nat) (sz : Nat), Met l y ws rm (PcS G ad g m sz (av ad)) (va_Qv (fun (_ : Unit) => mOk g m') (fun _ t => va_P G.1 vwCl (wl G ad g m') t.heap) (va_A (wl G ad g m) sz)) 0 0 (va_A (wl G ad g m) sz)
def mR (l : Launch) (y : MethodName) (ws : List Cond) (rm : Room) (G : Gl) (av : (Int → Nat) → List Value) (g : Shp) (m : Mem) (r : Int) (m' : Mem) : Prop :=
  ∀ (ad : Int → Nat) (sz : Nat), Met l y ws rm (PcS G ad g m sz (av ad)) (va_Qr (fun (_ : Unit) => r32 r ∧ mOk g m') (fun _ a t => a = ad r ∧ va_P G.1 vwCl (wl G ad g m') t.heap) (va_A (wl G ad g m) sz)) 0 0 (va_A (wl G ad g m) sz)
theorem wl_D {A : Nat → Prop} {G : Gl} {ad : Int → Nat} {g : Shp} {m m' : Mem} (h : va_D A (wl G ad g m)) : va_D A (wl G ad g m') := by
  have hat : ∀ (k : Nat) (q : Nat × va_E), (wl G ad g m')[k]? = some q → ∃ q2, (wl G ad g m)[k]? = some q2 ∧ q2.1 = q.1 := by
    intro k q hq
    by_cases hb : k < gn g
    · simp [wl, hb] at hq
      exact ⟨(ad ((k : Int) + 1), eC G ad g m ((k : Int) + 1)), by simp [wl, hb], by rw [← hq]⟩
    · simp [wl, hb] at hq
  refine ⟨fun i j x y hx hy he => ?_, fun k q hq => ?_⟩
  · obtain ⟨x2, h1, h2⟩ := hat i x hx
    obtain ⟨y2, h3, h4⟩ := hat j y hy
    exact h.1 i j x2 y2 h1 h3 (by rw [h2, h4, he])
  · obtain ⟨q2, h1, h2⟩ := hat k q hq
    rw [← h2]
    exact h.2 k q2 h1
section Calls
variable {p : Program} {l : Launch} {e : Env} {R : Room} {s : State} {mt : MethodId} {args : Array Value} {below : List Frame} {meth : Method} {c : Code} {H : Heap} {locs : List Loc} {cells slots : Nat} {Q : State → Prop}
variable {cc : ByteArray} {pc nL : Nat} {ls : Array Slot} {rest st0 : List Value} {own : String} {G : Gl} {A : Nat → Prop} {H0 : Heap} {ad : Int → Nat} {g : Shp} {m m' : Mem}
variable {y : MethodName} {bytes : ByteArray} {maxL idx n mc msl : Nat} {ret : Option FieldType} {rm : Room} {Qc : Array Value → State → Outcome → State → Prop} {free : Addr → Prop} {As : List Value}
theorem PcS_blind {sz : Nat} {av : List Value} : FrameBlind (PcS G ad g m sz av) := fun a U gf mk q => by
  obtain ⟨q0, q1, qK, qP, qD, qg, qm, qE⟩ := q
  exact ⟨q0, q1, va_K.moved (u := U) (U := U.calling gf mk a) (Vm.Alike.refl U.vm) qK, qP, qD, qg, qm, qE.same rfl⟩
theorem PcS_pre (S : Wd G A s H0 ad g m H locs) {av : List Value} : ∀ U : State, U.heap = H → s.WarmedH U.vm → PcS G ad g m H.size av av.toArray U := fun U hU hW => by
  obtain ⟨hK, hP, hD, hS, hA, hg, hm, hE⟩ := S
  exact ⟨rfl, by rw [hU], va_K.moved hW.alike hK, by rw [hU]; exact hP, hD.weaken (fun _ _ _ _ => trivial), hg, hm, hE.warm hW⟩
theorem Wd_A (S : Wd G A s H0 ad g m H locs) : ∀ q, va_A (wl G ad g m) H.size q → A q := fun q h => by
  obtain ⟨hK, hP, hD, hS, hA, hg, hm, hE⟩ := S
  rcases h with ⟨k, x, hk⟩ | h
  · exact hD.2 k (q, x) hk
  · exact hA q (Nat.le_trans hS.1 h)
theorem run_V (C : CallFix p mt c cc nL s args tb own) (S : Wd G A s H0 ad g m H locs) {rr : Int} (hM : Met l y (wT y bytes maxL ret) rm (PcS G ad g m H.size (.ref (ad rr) :: As)) Qc mc msl free) {Cn : String} {k : Nat} (hk : gk g rr = k) (hcl : (1 ≤ k ∧ k < 20) ∧ ∃ T N, vwCl[k - 1]? = some (Cn, T, N)) (gd : GoodIn tb (wsV own idx Cn y (wT y bytes maxL ret)))
    (hd : y.cls = Cn ∧ y.cls ≠ "java/lang/invoke/MethodHandle" ∧ y.cls ≠ "java/lang/invoke/VarHandle" ∧ (parseMethodDescriptor y.desc).map (fun d => d.parameters.length) = some n) (hn : As.length = n) (hR : rm.cells = mc ∧ rm.slots = msl ∧ rm.frames + 1 ≤ R.frames ∧ 8 + (maxL + 11) + rm.locals ≤ R.locals) (hcs : cells + mc ≤ R.cells ∧ slots + msl ≤ R.slots) (hsz : ls.size = nL) (hst : st0 = As.reverse ++ .ref (ad rr) :: rest) (hrm : (rest.map fun v => v.category).sum ≤ 8) (hdg : decode cc pc = .ok (.invokevirtual idx, 3)) :
    va_Run p l e R s mt args below meth c H locs cells slots mc msl (F0 mt pc ls st0) rest (Qc (Value.ref (ad rr) :: As).toArray) free := by
  obtain ⟨hkk, T, N, hT⟩ := hcl
  have hat := wl_at (G := G) (ad := ad) (m := m) S.2.2.2.2.2.1 (r := rr) (by omega)
  rw [eC_obj hk hkk.2] at hat
  exact va_runV C hM (cwV n C.2.2.2.2 gd rfl hR.1 hR.2.1 hd hR.2.2) ⟨PcS_blind, va_recv S.1 S.2.1 hT hat, PcS_pre S⟩ rfl hn hsz hst (lv_room hrm) hdg hcs
theorem run_S (C : CallFix p mt c cc nL s args tb own) (S : Wd G A s H0 ad g m H locs) (hM : Met l y (wT y bytes maxL ret) rm (PcS G ad g m H.size As) Qc mc msl free) (gd : GoodIn tb (va_wsS own idx y (wT y bytes maxL ret)))
    (hd : y.cls ≠ "java/lang/invoke/MethodHandle" ∧ y.cls ≠ "java/lang/invoke/VarHandle" ∧ (parseMethodDescriptor y.desc).map (fun d => d.parameters.length) = some n) (hn : As.length = n) (hR : rm.cells = mc ∧ rm.slots = msl ∧ rm.frames + 1 ≤ R.frames ∧ 8 + (maxL + 11) + rm.locals ≤ R.locals) (hcs : cells + mc ≤ R.cells ∧ slots + msl ≤ R.slots) (hsz : ls.size = nL) (hst : st0 = As.reverse ++ rest) (hrm : (rest.map fun v => v.category).sum ≤ 8) (hdg : decode cc pc = .ok (.invokestatic idx, 3)) :
    va_Run p l e R s mt args below meth c H locs cells slots mc msl (F0 mt pc ls st0) rest (Qc As.toArray) free :=
  va_runS C hM (va_cwS n C.2.2.2.2 gd rfl hR.1 hR.2.1 hd hR.2.2) ⟨PcS_blind, PcS_pre S⟩ rfl hn hsz hst (lv_room hrm) hdg hcs
theorem run_SN (C : CallFix p mt c cc nL s args tb own) (S : Wd G A s H0 ad g m H locs) (hM : Met l y (wT y bytes maxL ret) rm (PcS G ad g m H.size As) Qc mc msl free) {host : String} (hnst : (own, idx, y, host) ∈ nestQ) (hcw : Cond.code y bytes maxL ret ∈ tb) (hini : Cond.initialized y.cls ∈ tb) (hstc : Cond.static y ∈ tb)
    (hd : y.cls ≠ "java/lang/invoke/MethodHandle" ∧ y.cls ≠ "java/lang/invoke/VarHandle" ∧ (parseMethodDescriptor y.desc).map (fun d => d.parameters.length) = some n) (hn : As.length = n) (hR : rm.cells = mc ∧ rm.slots = msl ∧ rm.frames + 1 ≤ R.frames ∧ 8 + (maxL + 11) + rm.locals ≤ R.locals) (hcs : cells + mc ≤ R.cells ∧ slots + msl ≤ R.slots) (hsz : ls.size = nL) (hst : st0 = As.reverse ++ rest) (hrm : (rest.map fun v => v.category).sum ≤ 8) (hdg : decode cc pc = .ok (.invokestatic idx, 3)) :
    va_Run p l e R s mt args below meth c H locs cells slots mc msl (F0 mt pc ls st0) rest (Qc As.toArray) free :=
  va_runSN C hM ⟨va_cnB n C.2.2.2.2 (wT_good hcw) rfl hR.1 hR.2.1 (S.2.2.2.2.2.2.2.1 _ hnst) (C.2.2.2.2 _ hini) hd hR.2.2, C.2.2.2.2 _ hstc, trivial⟩ ⟨PcS_blind, PcS_pre S⟩ rfl hn hsz hst (lv_room hrm) hdg hcs
/-- behind a call that makes no cell: an int, nothing, an object -/
theorem q_ci (S : Wd G A s H0 ad g m H locs) {a : Array Value} {r : Int} {bz : Bool} (hr : va_Run p l e R s mt args below meth c H locs cells slots 0 0 (F0 mt pc ls st0) rest (va_Qi (fun r0 (_ : Unit) => r0 = iI r ∧ (r32 r ∧ (bz = true → r = 0 ∨ r = 1)) ∧ mOk g m') (fun _ t => va_P G.1 vwCl (wl G ad g m') t.heap) (va_A (wl G ad g m) H.size) a) (va_A (wl G ad g m) H.size))
    (kk : ∀ (H : Heap) (locs : List Loc), Wd G A s H0 ad g m' H locs → r32 r ∧ (bz = true → r = 0 ∨ r = 1) → W p l e R s mt args below meth c H locs cells slots Q (F0 mt (pc + 3) ls (.int (iI r) :: rest))) : W p l e R s mt args below meth c H locs cells slots Q (F0 mt pc ls st0) := by
  obtain ⟨hK, hP, hD, hS, hA, hg, hm, hE⟩ := id S
  refine va_calli hr hS (fun q _ h => Wd_A S q h) (Wd_A S) (fun r0 u t H1 locs1 ht hvm hw hB hz1 hk1 hS1 => ?_)
  obtain ⟨rfl, h32, hm1⟩ := hw
  rw [ht] at hB
  exact kk H1 locs1 ⟨hK, hB, wl_D hD, hS1, hA, hg, hm1, hE⟩ h32
theorem q_cv (S : Wd G A s H0 ad g m H locs) {a : Array Value} (hr : va_Run p l e R s mt args below meth c H locs cells slots 0 0 (F0 mt pc ls st0) rest (va_Qv (fun (_ : Unit) => mOk g m') (fun _ t => va_P G.1 vwCl (wl G ad g m') t.heap) (va_A (wl G ad g m) H.size) a) (va_A (wl G ad g m) H.size))
    (kk : ∀ (H : Heap) (locs : List Loc), Wd G A s H0 ad g m' H locs → W p l e R s mt args below meth c H locs cells slots Q (F0 mt (pc + 3) ls rest)) : W p l e R s mt args below meth c H locs cells slots Q (F0 mt pc ls st0) := by
  obtain ⟨hK, hP, hD, hS, hA, hg, hm, hE⟩ := id S
  refine va_callv hr hS (fun q _ h => Wd_A S q h) (Wd_A S) (fun u t H1 locs1 ht hvm hw hB hz1 hk1 hS1 => ?_)
  rw [ht] at hB
  exact kk H1 locs1 ⟨hK, hB, wl_D hD, hS1, hA, hg, hw, hE⟩
theorem q_cr (S : Wd G A s H0 ad g m H locs) {a : Array Value} {r : Int} (hr : va_Run p l e R s mt args below meth c H locs cells slots 0 0 (F0 mt pc ls st0) rest (va_Qr (fun (_ : Unit) => r32 r ∧ mOk g m') (fun _ b t => b = ad r ∧ va_P G.1 vwCl (wl G ad g m') t.heap) (va_A (wl G ad g m) H.size) a) (va_A (wl G ad g m) H.size))
    (kk : ∀ (H : Heap) (locs : List Loc), Wd G A s H0 ad g m' H locs → r32 r → W p l e R s mt args below meth c H locs cells slots Q (F0 mt (pc + 3) ls (.ref (ad r) :: rest))) : W p l e R s mt args below meth c H locs cells slots Q (F0 mt pc ls st0) := by
  obtain ⟨hK, hP, hD, hS, hA, hg, hm, hE⟩ := id S
  refine va_callr hr hS (fun q _ h => Wd_A S q h) (Wd_A S) (fun u ra t H1 locs1 ht hvm hw hB hz1 hk1 hS1 => ?_)
  rw [ht] at hB
  obtain ⟨rfl, hB⟩ := hB
  exact kk H1 locs1 ⟨hK, hB, wl_D hD, hS1, hA, hg, hw.2, hE⟩ hw.1
end Calls
/-! the contract of a method out of its walk -/
theorem met_i {l : Launch} {y : MethodName} {cc : ByteArray} {maxL : Nat} {ty : FieldType} {rm : Room} {G : Gl} {av : (Int → Nat) → List Value} {g : Shp} {m m' : Mem} {r : Int} {bz : Bool} (hy : plainName y.cls = true) (hlen : ∀ ad, (lg_sl (av ad)).length ≤ maxL)
    (body : ∀ (p : Program) (e : Env) (s : State) (mt : MethodId) (args : Array Value) (below : List Frame) (meth : Method) (c : Code) (Q : State → Prop) (A : Nat → Prop) (H0 H : Heap) (locs : List Loc) (ad : Int → Nat) (ls : Array Slot), CallFix p mt c cc maxL s args tb y.cls → meth.name = y.name → Wd G A s H0 ad g m H locs → lv_has ls maxL (lv_args 0 (av ad)) →
      (∀ (H : Heap) (locs : List Loc) (pc : Nat) (ls : Array Slot), Wd G A s H0 ad g m' H locs → decode cc pc = .ok (.ireturn, 1) → r32 r ∧ (bz = true → r = 0 ∨ r = 1) → narrow ty (.int (iI r)) = .int (iI r) → W p l e rm s mt args below meth c H locs 0 0 Q (F0 mt pc ls [.int (iI r)])) → W p l e rm s mt args below meth c H locs 0 0 Q (F0 mt 0 ls [])) : mI l y (wT y cc maxL (some ty)) rm G bz av g m r m' := by
  intro ad sz
  refine Met.ofW (cc := cc) (maxL := maxL) (ret := some ty) hy rfl ?_
  intro p e s mt args below meth c s₁ B hml hv
  obtain ⟨rfl, rfl, hK, hP, hD, hg, hm, hE⟩ := hv
  have hts := atoms_spec (ws := wT y cc maxL (some ty)) B.pre
  have hlocks := B.notSynchronized
  have hret := B.returns
  have C : CallFix p mt c cc maxL s (av ad).toArray tb y.cls := ⟨B.exec, B.bytes, hml, findClass_of_methodNamed B.named, fun w h => hts w (List.mem_cons_of_mem _ h)⟩
  have hl := lv_entry (av ad) (n := maxL) (hlen ad)
  rw [lg_entry_eq]
  refine body p e s mt _ below meth c _ (va_A (wl G ad g m) s.heap.size) s.heap s.heap [] ad _ C (name_of_methodNamed B.named B.method).1 ⟨hK, hP, hD.self, va_S.rf, fun q h => Or.inr h, hg, hm, hE⟩ hl (fun H locs pc ls S hdg hr hnr => ?_)
  obtain ⟨hK1, hP1, hD1, hS1, hA1, hg1, hm1, hE1⟩ := S
  exact W.zret B.exec B.bytes hret hnr (fun t ht hW => ⟨⟨iI r, (), rfl, ⟨rfl, hr, hm1⟩, by show va_P _ _ _ t.heap; rw [ht]; exact hP1⟩, hS1.F ht⟩) hS1.2.2 hdg
theorem met_v {l : Launch} {y : MethodName} {cc : ByteArray} {maxL : Nat} {rm : Room} {G : Gl} {av : (Int → Nat) → List Value} {g : Shp} {m m' : Mem} (hy : plainName y.cls = true) (hlen : ∀ ad, (lg_sl (av ad)).length ≤ maxL)
    (body : ∀ (p : Program) (e : Env) (s : State) (mt : MethodId) (args : Array Value) (below : List Frame) (meth : Method) (c : Code) (Q : State → Prop) (A : Nat → Prop) (H0 H : Heap) (locs : List Loc) (ad : Int → Nat) (ls : Array Slot), CallFix p mt c cc maxL s args tb y.cls → meth.name = y.name → Wd G A s H0 ad g m H locs → lv_has ls maxL (lv_args 0 (av ad)) →
      (∀ (H : Heap) (locs : List Loc) (pc : Nat) (ls : Array Slot), Wd G A s H0 ad g m' H locs → decode cc pc = .ok (.return_, 1) → W p l e rm s mt args below meth c H locs 0 0 Q (F0 mt pc ls [])) → W p l e rm s mt args below meth c H locs 0 0 Q (F0 mt 0 ls [])) : mV l y (wT y cc maxL none) rm G av g m m' := by
  intro ad sz
  refine Met.ofW (cc := cc) (maxL := maxL) (ret := none) hy rfl ?_
  intro p e s mt args below meth c s₁ B hml hv
  obtain ⟨rfl, rfl, hK, hP, hD, hg, hm, hE⟩ := hv
  have hts := atoms_spec (ws := wT y cc maxL none) B.pre
  have hlocks := B.notSynchronized
  have hret := B.returns
  have C : CallFix p mt c cc maxL s (av ad).toArray tb y.cls := ⟨B.exec, B.bytes, hml, findClass_of_methodNamed B.named, fun w h => hts w (List.mem_cons_of_mem _ h)⟩
  have hl := lv_entry (av ad) (n := maxL) (hlen ad)
  rw [lg_entry_eq]
  refine body p e s mt _ below meth c _ (va_A (wl G ad g m) s.heap.size) s.heap s.heap [] ad _ C (name_of_methodNamed B.named B.method).1 ⟨hK, hP, hD.self, va_S.rf, fun q h => Or.inr h, hg, hm, hE⟩ hl (fun H locs pc ls S hdg => ?_)
  obtain ⟨hK1, hP1, hD1, hS1, hA1, hg1, hm1, hE1⟩ := S
  exact W.vret B.exec B.bytes hret (fun t ht hW => ⟨⟨(), rfl, hm1, by show va_P _ _ _ t.heap; rw [ht]; exact hP1⟩, hS1.F ht⟩) hS1.2.2 hdg
theorem met_r {l : Launch} {y : MethodName} {cc : ByteArray} {maxL : Nat} {cn : String} {rm : Room} {G : Gl} {av : (Int → Nat) → List Value} {g : Shp} {m m' : Mem} {r : Int} (hy : plainName y.cls = true) (hlen : ∀ ad, (lg_sl (av ad)).length ≤ maxL)
    (body : ∀ (p : Program) (e : Env) (s : State) (mt : MethodId) (args : Array Value) (below : List Frame) (meth : Method) (c : Code) (Q : State → Prop) (A : Nat → Prop) (H0 H : Heap) (locs : List Loc) (ad : Int → Nat) (ls : Array Slot), CallFix p mt c cc maxL s args tb y.cls → meth.name = y.name → Wd G A s H0 ad g m H locs → lv_has ls maxL (lv_args 0 (av ad)) →
      (∀ (H : Heap) (locs : List Loc) (pc : Nat) (ls : Array Slot), Wd G A s H0 ad g m' H locs → decode cc pc = .ok (.areturn, 1) → r32 r → W p l e rm s mt args below meth c H locs 0 0 Q (F0 mt pc ls [.ref (ad r)])) → W p l e rm s mt args below meth c H locs 0 0 Q (F0 mt 0 ls [])) : mR l y (wT y cc maxL (some (.object cn))) rm G av g m r m' := by
  intro ad sz
  refine Met.ofW (cc := cc) (maxL := maxL) (ret := some (.object cn)) hy rfl ?_
  intro p e s mt args below meth c s₁ B hml hv
  obtain ⟨rfl, rfl, hK, hP, hD, hg, hm, hE⟩ := hv
  have hts := atoms_spec (ws := wT y cc maxL (some (.object cn))) B.pre
  have hlocks := B.notSynchronized
  have hret := B.returns
  have C : CallFix p mt c cc maxL s (av ad).toArray tb y.cls := ⟨B.exec, B.bytes, hml, findClass_of_methodNamed B.named, fun w h => hts w (List.mem_cons_of_mem _ h)⟩
  have hl := lv_entry (av ad) (n := maxL) (hlen ad)
  rw [lg_entry_eq]
  refine body p e s mt _ below meth c _ (va_A (wl G ad g m) s.heap.size) s.heap s.heap [] ad _ C (name_of_methodNamed B.named B.method).1 ⟨hK, hP, hD.self, va_S.rf, fun q h => Or.inr h, hg, hm, hE⟩ hl (fun H locs pc ls S hdg hr => ?_)
  obtain ⟨hK1, hP1, hD1, hS1, hA1, hg1, hm1, hE1⟩ := S
  exact W.aret B.exec B.bytes hret (Or.inl ⟨cn, rfl⟩) (Or.inr ⟨_, rfl⟩) (fun t ht hW => ⟨⟨(), ad r, rfl, ⟨hr, hm1⟩, rfl, by rw [ht]; exact hP1⟩, hS1.F ht⟩) hS1.2.2 hdg
theorem nr_b {r : Int} (h : r = 0 ∨ r = 1) : narrow .boolean (.int (iI r)) = .int (iI r) := by rcases h with rfl | rfl <;> decide
theorem r_b {r : Int} (h : r = 0 ∨ r = 1) : r32 r := by rcases h with rfl | rfl <;> exact ⟨by decide, by decide⟩
theorem ft_b {r : Int} (h : r = 0 ∨ r = 1) : fits .boolean (.int (iI r)) = true := by rcases h with rfl | rfl <;> decide
theorem b_0 : (0 : Int) = 0 ∨ (0 : Int) = 1 := Or.inl rfl
theorem b_1 : (1 : Int) = 0 ∨ (1 : Int) = 1 := Or.inr rfl
