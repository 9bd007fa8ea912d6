/-! ===== the law's own rows: the script ===== -/
def sx (xs : Nat → Int32) (i : Int) : Int := (xs i.toNat).toInt
def SC (b L : Nat) (xs : Nat → Int32) (A : Nat → Prop) (s : State) (H0 : Heap) : Prop := va_X b L xs s H0 ∧ b < H0.size ∧ ¬ A b ∧ L ≤ 2560
theorem r32_L {b L : Nat} {xs : Nat → Int32} {A : Nat → Prop} {s : State} {H0 : Heap} (h : SC b L xs A s H0) : r32 (L : Int) := by
  have := h.2.2.2
  exact ⟨by omega, by omega⟩
section QL
variable {p : Program} {l : Launch} {e : Env} {R : Room} {s : State} {mt : MethodId} {args : Array Value} {below : List Frame} {meth : Method} {c : Code} {H : Heap} {locs : List Loc} {cells slots : Nat} {Q : State → Prop}
variable {cc : ByteArray} {pc nL : Nat} {ls : Array Slot} {rest st0 : List Value} {own : String} {G : Gl} {A : Nat → Prop} {H0 : Heap} {ad : Int → Nat} {g : Shp} {m : Mem} {b L : Nat} {xs : Nat → Int32}
theorem q_scl (C : CallFix p mt c cc nL s args tb own) (S : Wd G A s H0 ad g m H locs) (hX : SC b L xs A s H0) (hdg : decode cc pc = .ok (.arraylength, 1)) (kk : W p l e R s mt args below meth c H locs cells slots Q (F0 mt (pc + 1) ls (.int (iI (L : Int)) :: rest))) : W p l e R s mt args below meth c H locs cells slots Q (F0 mt pc ls (.ref b :: rest)) := by
  refine va_slen C.1 C.2.1 hX.1 hX.2.1 hX.2.2.1 S.2.2.2.1 hdg ?_
  have he : Int32.ofNat L = iI (L : Int) := Int32.ofInt_eq_ofNat.symm
  rw [he]
  exact kk
theorem q_scr (C : CallFix p mt c cc nL s args tb own) (S : Wd G A s H0 ad g m H locs) (hX : SC b L xs A s H0) {i : Int} (hi : 0 ≤ i ∧ i < (L : Int)) (hdg : decode cc pc = .ok (.iaload, 1)) (kk : W p l e R s mt args below meth c H locs cells slots Q (F0 mt (pc + 1) ls (.int (iI (sx xs i)) :: rest))) : W p l e R s mt args below meth c H locs cells slots Q (F0 mt pc ls (.int (iI i) :: .ref b :: rest)) := by
  have hL := hX.2.2.2
  refine va_sld C.1 C.2.1 hX.1 hX.2.1 hX.2.2.1 S.2.2.2.1 (iI_in hi.1 hi.2 (by omega)) hdg ?_
  rw [iI_cl hi.1 (by omega)]
  unfold sx at kk
  rw [iI_of] at kk
  exact kk
variable {y : MethodName} {bytes : ByteArray} {maxL idx n mc msl k v : Nat} {rm : Room} {Qc : Array Value → State → Outcome → State → Prop} {free : Addr → Prop} {As : List Value}
theorem PcT_blind {sz : Nat} {av : List Value} : FrameBlind (PcT G ad g m sz k v av) := fun a U gf mk q => by
  obtain ⟨q0, ⟨q1, qK, qP, qD, qg, qm, qE⟩, qQ⟩ := q
  exact ⟨q0, ⟨q1, va_K.moved (u := U) (U := U.calling gf mk a) (Vm.Alike.refl U.vm) qK, qP, qD, qg, qm, qE.same rfl⟩, SQ.same (u := U) (U := U.calling gf mk a) qQ rfl⟩
theorem PcT_pre (S : Wd G A s H0 ad g m H locs) (hH : H0 = s.heap) (hQ : SQ A k v s s.heap) {av : List Value} : ∀ U : State, U.heap = H → s.WarmedH U.vm → PcT G ad g m H.size k v av av.toArray U := fun U hU hW => by
  have hA := Wd_A S
  obtain ⟨hK, hP, hD, hS, hA9, hg, hm, hE⟩ := S
  subst hH
  refine ⟨rfl, ⟨by rw [hU], va_K.moved hW.alike hK, by rw [hU]; exact hP, hD.weaken (fun _ _ _ _ => trivial), hg, hm, hE.warm hW⟩, ?_⟩
  rw [hU]
  exact ((hQ.kept hS.2.1).warm hW).narrow hA
theorem run_IT (C : CallFix p mt c cc nL s args tb own) (S : Wd G A s H0 ad g m H locs) (hH : H0 = s.heap) (hQ : SQ A k v s s.heap) {rr : Int} (hM : Met l y (wT y bytes maxL none) rm (PcT G ad g m H.size k v (.ref (ad rr) :: As)) Qc mc msl free) (hcw : Cond.code y bytes maxL none ∈ tb) (hini : Cond.initialized y.cls ∈ tb) (hlk : Cond.methodLink own idx y ∈ tb) (hin : Cond.instanceMethod y ∈ tb) (hy : y.name = "<init>")
    (hd : y.cls ≠ "java/lang/invoke/MethodHandle" ∧ y.cls ≠ "java/lang/invoke/VarHandle" ∧ (parseMethodDescriptor y.desc).map (fun d => d.parameters.length) = some n) (hn : As.length = n) (hR : rm.cells = mc ∧ rm.slots = msl ∧ rm.frames + 1 ≤ R.frames ∧ 8 + (maxL + 11) + rm.locals ≤ R.locals) (hcs : cells + mc ≤ R.cells ∧ slots + msl ≤ R.slots) (hsz : ls.size = nL) (hst : st0 = As.reverse ++ .ref (ad rr) :: rest) (hrm : (rest.map fun v => v.category).sum ≤ 8) (hdg : decode cc pc = .ok (.invokespecial idx, 3)) :
    va_Run p l e R s mt args below meth c H locs cells slots mc msl (F0 mt pc ls st0) rest (Qc (Value.ref (ad rr) :: As).toArray) free :=
  va_runI C hM (cwI n C.2.2.2.2 (wT_good hcw) rfl hR.1 hR.2.1 (C.2.2.2.2 _ hini) (C.2.2.2.2 _ hlk) (C.2.2.2.2 _ hin) hy hd hR.2.2) ⟨PcT_blind, PcT_pre S hH hQ⟩ rfl hn hsz hst (lv_room hrm) hdg hcs
end QL
