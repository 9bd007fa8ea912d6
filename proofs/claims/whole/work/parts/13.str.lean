theorem sl_cod : Cond.methodLink "java/lang/String" 335 yJ0_coder_7d493 ∈ tb := tb_at 432 (by decide +kernel) (by decide +kernel)
theorem sl_lat : Cond.methodLink "java/lang/String" 492 yJ0_isLatin1_aae02 ∈ tb := tb_at 442 (by decide +kernel) (by decide +kernel)
theorem sl_lch : Cond.methodLink "java/lang/String" 495 yJ1_charAt_3b067 ∈ tb := tb_at 446 (by decide +kernel) (by decide +kernel)
theorem sl_cix : Cond.methodLink "java/lang/StringLatin1" 9 yJ0_checkIndex_df160 ∈ tb := tb_at 449 (by decide +kernel) (by decide +kernel)
theorem sl_pix : Cond.methodLink "java/lang/String" 1059 yJ3_checkIndex_8e157 ∈ tb := tb_at 454 (by decide +kernel) (by decide +kernel)
-- len 63
theorem sl_len : Cond.methodLink "StoneFloors" 63 yJ0_length_8abf5 ∈ tb := tb_at 428 (by decide +kernel) (by decide +kernel)
-- cha 69
theorem sl_cha : Cond.methodLink "StoneFloors" 69 yJ0_charAt_5068e ∈ tb := tb_at 438 (by decide +kernel) (by decide +kernel)
theorem sf_cs : Cond.fieldLink "java/lang/String" 38 "java/lang/String" "COMPACT_STRINGS" "Z" ∈ tb := tb_at 436 (by decide +kernel) (by decide +kernel)
theorem sf_fm : Cond.fieldLink "java/lang/String" 1053 "jdk/internal/util/Preconditions" "SIOOBE_FORMATTER" "Ljava/util/function/BiFunction;" ∈ tb := tb_at 452 (by decide +kernel) (by decide +kernel)
theorem sf_vl : Cond.fieldLink "java/lang/String" 9 "java/lang/String" "value" "[B" ∈ tb := tb_at 1191 (by decide +kernel) (by decide +kernel)
theorem sf_cd : Cond.fieldLink "java/lang/String" 15 "java/lang/String" "coder" "B" ∈ tb := tb_at 1192 (by decide +kernel) (by decide +kernel)
theorem sc_len : Cond.code yJ0_length_8abf5 cJ0_length_8abf5 1 (Option.some Jvm.ClassFile.FieldType.int) ∈ tb := tb_at 431 (by decide +kernel) (by decide +kernel)
theorem si_len : Cond.instanceMethod yJ0_length_8abf5 ∈ tb := tb_at 429 (by decide +kernel) (by decide +kernel)
theorem ss_len : Cond.selects "java/lang/String" yJ0_length_8abf5 yJ0_length_8abf5 ∈ tb := tb_at 430 (by decide +kernel) (by decide +kernel)
theorem sc_cod : Cond.code yJ0_coder_7d493 cJ0_coder_7d493 1 (Option.some Jvm.ClassFile.FieldType.byte) ∈ tb := tb_at 435 (by decide +kernel) (by decide +kernel)
theorem si_cod : Cond.instanceMethod yJ0_coder_7d493 ∈ tb := tb_at 433 (by decide +kernel) (by decide +kernel)
theorem ss_cod : Cond.selects "java/lang/String" yJ0_coder_7d493 yJ0_coder_7d493 ∈ tb := tb_at 434 (by decide +kernel) (by decide +kernel)
theorem sc_lat : Cond.code yJ0_isLatin1_aae02 cJ0_isLatin1_aae02 1 (Option.some Jvm.ClassFile.FieldType.boolean) ∈ tb := tb_at 445 (by decide +kernel) (by decide +kernel)
theorem si_lat : Cond.instanceMethod yJ0_isLatin1_aae02 ∈ tb := tb_at 443 (by decide +kernel) (by decide +kernel)
theorem ss_lat : Cond.selects "java/lang/String" yJ0_isLatin1_aae02 yJ0_isLatin1_aae02 ∈ tb := tb_at 444 (by decide +kernel) (by decide +kernel)
theorem sc_cha : Cond.code yJ0_charAt_5068e cJ0_charAt_5068e 2 (Option.some Jvm.ClassFile.FieldType.char) ∈ tb := tb_at 441 (by decide +kernel) (by decide +kernel)
theorem si_cha : Cond.instanceMethod yJ0_charAt_5068e ∈ tb := tb_at 439 (by decide +kernel) (by decide +kernel)
theorem ss_cha : Cond.selects "java/lang/String" yJ0_charAt_5068e yJ0_charAt_5068e ∈ tb := tb_at 440 (by decide +kernel) (by decide +kernel)
theorem sc_lch : Cond.code yJ1_charAt_3b067 cJ1_charAt_3b067 2 (Option.some Jvm.ClassFile.FieldType.char) ∈ tb := tb_at 448 (by decide +kernel) (by decide +kernel)
theorem st_lch : Cond.static yJ1_charAt_3b067 ∈ tb := tb_at 447 (by decide +kernel) (by decide +kernel)
theorem sc_cix : Cond.code yJ0_checkIndex_df160 cJ0_checkIndex_df160 2 (Option.none : Option Jvm.ClassFile.FieldType) ∈ tb := tb_at 451 (by decide +kernel) (by decide +kernel)
theorem st_cix : Cond.static yJ0_checkIndex_df160 ∈ tb := tb_at 450 (by decide +kernel) (by decide +kernel)
theorem sc_pix : Cond.code yJ3_checkIndex_8e157 cJ3_checkIndex_8e157 3 (Option.some Jvm.ClassFile.FieldType.int) ∈ tb := tb_at 456 (by decide +kernel) (by decide +kernel)
theorem st_pix : Cond.static yJ3_checkIndex_8e157 ∈ tb := tb_at 455 (by decide +kernel) (by decide +kernel)
theorem sn_str : Cond.initialized "java/lang/String" ∈ tb := tb_at 75 (by decide +kernel) (by decide +kernel)
theorem sn_lt1 : Cond.initialized "java/lang/StringLatin1" ∈ tb := tb_at 76 (by decide +kernel) (by decide +kernel)
theorem sn_pre : Cond.initialized "jdk/internal/util/Preconditions" ∈ tb := tb_at 77 (by decide +kernel) (by decide +kernel)
def strT : String := "z2,3,5;j0;b0,4,4,2;b1,3,2,1;l2,2,r9d6l4;l6,0,d8;l0,5,r12u3;"
def strI : List Int := [122, 50, 44, 51, 44, 53, 59, 106, 48, 59, 98, 48, 44, 52, 44, 52, 44, 50, 59, 98, 49, 44, 51, 44, 50, 44, 49, 59, 108, 50, 44, 50, 44, 114, 57, 100, 54, 108, 52, 59, 108, 54, 44, 48, 44, 100, 56, 59, 108, 48, 44, 53, 44, 114, 49, 50, 117, 51, 59]
def sAt (i : Int) : Int := strI.getD i.toNat 0
def SQ (A : Nat → Prop) (k v : Nat) (U : State) (H : Heap) : Prop := vk_S 1 [59] [strI.map iI] (fun _ => k) (fun _ => v) A U H ∧ vk_R RX10 61 strT k U ∧ va_Z "java/lang/String" "COMPACT_STRINGS" "Z" (.int 1) A U H ∧ va_Zq "jdk/internal/util/Preconditions" "SIOOBE_FORMATTER" "Ljava/util/function/BiFunction;" A U H
theorem SQ.same {A : Nat → Prop} {k v : Nat} {u U : State} {H : Heap} (h : SQ A k v u H) (hv : u.vm = U.vm) : SQ A k v U H := by
  have ha : u.vm.Alike U.vm := by rw [hv]; exact Vm.Alike.refl _
  exact ⟨h.1.moved ha, vk_R.same hv.symm h.2.1, h.2.2.1.moved ha, h.2.2.2.moved ha⟩
theorem SQ.warm {A : Nat → Prop} {k v : Nat} {u U : State} {H : Heap} (h : SQ A k v u H) (hW : u.WarmedH U.vm) : SQ A k v U H :=
  ⟨h.1.moved hW.alike, h.2.1.warm hW, h.2.2.1.moved hW.alike, h.2.2.2.moved hW.alike⟩
theorem SQ.kept {A : Nat → Prop} {k v : Nat} {U : State} {H H1 : Heap} (h : SQ A k v U H) (hq : ∀ a : Nat, a < H.size → ¬ A a → H1[a]? = H[a]?) : SQ A k v U H1 :=
  ⟨h.1.kept hq, h.2.1, h.2.2.1.kept hq, h.2.2.2.kept hq⟩
theorem SQ.narrow {A B : Nat → Prop} {k v : Nat} {U : State} {H : Heap} (h : SQ A k v U H) (hAB : ∀ q, B q → A q) : SQ B k v U H :=
  ⟨h.1.narrow hAB, h.2.1, h.2.2.1.narrow hAB, h.2.2.2.narrow hAB⟩
def PcQ (A : Nat → Prop) (k v : Nat) (av : List Value) : Array Value → State → Prop := va_Pc av (fun U => SQ A k v U U.heap)
theorem PcQ_blind {A : Nat → Prop} {k v : Nat} {av : List Value} : FrameBlind (PcQ A k v av) := fun a U gf mk q => ⟨q.1, SQ.same (u := U) (U := U.calling gf mk a) q.2 rfl⟩
theorem PcQ_pre {A : Nat → Prop} {k v : Nat} {s : State} {H : Heap} {locs : List Loc} (h : SQ A k v s s.heap) (hS : va_S A s.heap H locs) {av : List Value} : ∀ U : State, U.heap = H → s.WarmedH U.vm → PcQ A k v av av.toArray U := fun U hU hW => ⟨rfl, by show SQ A k v U U.heap; rw [hU]; exact (h.kept hS.2.1).warm hW⟩
/-- a JDK method over the text constant: an int comes back, nothing is written -/
def mQ (l : Launch) (y : MethodName) (ws : List Cond) (rm : Room) (A : Nat → Prop) (k v : Nat) (av : List Value) (r : Int) : Prop := Met l y ws rm (PcQ A k v av) (vp_Si (fun r0 => r0 = iI r)) 0 0 (fun _ => False)
def mQv (l : Launch) (y : MethodName) (ws : List Cond) (rm : Room) (A : Nat → Prop) (k v : Nat) (av : List Value) : Prop := Met l y ws rm (PcQ A k v av) (va_Sv (fun _ => True)) 0 0 (fun _ => False)
theorem met_q {l : Launch} {y : MethodName} {cc : ByteArray} {maxL : Nat} {ty : FieldType} {rm : Room} {A : Nat → Prop} {k v : Nat} {av : List Value} {r : Int} (hy : plainName y.cls = true) (hlen : (lg_sl av).length ≤ maxL) (hnr : narrow ty (.int (iI r)) = .int (iI r))
    (body : ∀ (p : Program) (e : Env) (s : State) (mt : MethodId) (args : Array Value) (below : List Frame) (meth : Method) (c : Code) (Q : State → Prop) (ls : Array Slot), CallFix p mt c cc maxL s args tb y.cls → SQ A k v s s.heap → lv_has ls maxL (lv_args 0 av) →
      (∀ (pc : Nat) (ls : Array Slot), decode cc pc = .ok (.ireturn, 1) → W p l e rm s mt args below meth c s.heap [] 0 0 Q (F0 mt pc ls [.int (iI r)])) → W p l e rm s mt args below meth c s.heap [] 0 0 Q (F0 mt 0 ls [])) : mQ l y (wT y cc maxL (some ty)) rm A k v av r := by
  refine Met.ofW (cc := cc) (maxL := maxL) (ret := some ty) hy rfl ?_
  intro p e s mt args below meth c s₁ B hml hv
  obtain ⟨rfl, hQ⟩ := hv
  have hts := atoms_spec (ws := wT y cc maxL (some ty)) B.pre
  have hlocks := B.notSynchronized
  have hret := B.returns
  have C : CallFix p mt c cc maxL s av.toArray tb y.cls := ⟨B.exec, B.bytes, hml, findClass_of_methodNamed B.named, fun w h => hts w (List.mem_cons_of_mem _ h)⟩
  have hl := lv_entry av (n := maxL) hlen
  rw [lg_entry_eq]
  exact body p e s mt _ below meth c _ _ C hQ hl (fun pc ls hdg => W.zret B.exec B.bytes hret hnr (fun t ht hW => ⟨iI r, rfl, rfl, ht⟩) (fun q h => by cases h) hdg)
theorem met_qv {l : Launch} {y : MethodName} {cc : ByteArray} {maxL : Nat} {rm : Room} {A : Nat → Prop} {k v : Nat} {av : List Value} (hy : plainName y.cls = true) (hlen : (lg_sl av).length ≤ maxL)
    (body : ∀ (p : Program) (e : Env) (s : State) (mt : MethodId) (args : Array Value) (below : List Frame) (meth : Method) (c : Code) (Q : State → Prop) (ls : Array Slot), CallFix p mt c cc maxL s args tb y.cls → SQ A k v s s.heap → lv_has ls maxL (lv_args 0 av) →
      (∀ (pc : Nat) (ls : Array Slot), decode cc pc = .ok (.return_, 1) → W p l e rm s mt args below meth c s.heap [] 0 0 Q (F0 mt pc ls [])) → W p l e rm s mt args below meth c s.heap [] 0 0 Q (F0 mt 0 ls [])) : mQv l y (wT y cc maxL none) rm A k v av := by
  refine Met.ofW (cc := cc) (maxL := maxL) (ret := none) hy rfl ?_
  intro p e s mt args below meth c s₁ B hml hv
  obtain ⟨rfl, hQ⟩ := hv
  have hts := atoms_spec (ws := wT y cc maxL none) B.pre
  have hlocks := B.notSynchronized
  have hret := B.returns
  have C : CallFix p mt c cc maxL s av.toArray tb y.cls := ⟨B.exec, B.bytes, hml, findClass_of_methodNamed B.named, fun w h => hts w (List.mem_cons_of_mem _ h)⟩
  have hl := lv_entry av (n := maxL) hlen
  rw [lg_entry_eq]
  exact body p e s mt _ below meth c _ _ C hQ hl (fun pc ls hdg => W.vret B.exec B.bytes hret (fun t ht hW => ⟨rfl, trivial, ht⟩) (fun q h => by cases h) hdg)
section QC
variable {p : Program} {l : Launch} {e : Env} {R : Room} {s : State} {mt : MethodId} {args : Array Value} {below : List Frame} {meth : Method} {c : Code} {H : Heap} {locs : List Loc} {cells slots : Nat} {Q : State → Prop}
variable {cc : ByteArray} {pc nL : Nat} {ls : Array Slot} {rest st0 : List Value} {own : String} {A : Nat → Prop} {k v : Nat}
variable {y : MethodName} {bytes : ByteArray} {maxL idx n : Nat} {ret : Option FieldType} {rm : Room} {As : List Value} {r : Int}
theorem q_qV (C : CallFix p mt c cc nL s args tb own) (hQ : SQ A k v s s.heap) (hS : va_S A s.heap H locs) (hM : mQ l y (wT y bytes maxL ret) rm A k v (.ref k :: As) r) (gd : GoodIn tb (wsV own idx "java/lang/String" y (wT y bytes maxL ret)))
    (hd : y.cls = "java/lang/String" ∧ y.cls ≠ "java/lang/invoke/MethodHandle" ∧ y.cls ≠ "java/lang/invoke/VarHandle" ∧ (parseMethodDescriptor y.desc).map (fun d => d.parameters.length) = some n) (hn : As.length = n) (hR : rm.cells = 0 ∧ rm.slots = 0 ∧ rm.frames + 1 ≤ R.frames ∧ 8 + (maxL + 11) + rm.locals ≤ R.locals) (hcs : cells ≤ R.cells ∧ slots ≤ R.slots) (hsz : ls.size = nL) (hst : st0 = As.reverse ++ .ref k :: rest) (hrm : (rest.map fun v => v.category).sum ≤ 8) (hdg : decode cc pc = .ok (.invokevirtual idx, 3))
    (kk : W p l e R s mt args below meth c H locs cells slots Q (F0 mt (pc + 3) ls (.int (iI r) :: rest))) : W p l e R s mt args below meth c H locs cells slots Q (F0 mt pc ls st0) := by
  have hr := va_runV (e := e) (below := below) (meth := meth) (locs := locs) C hM (cwV n C.2.2.2.2 gd rfl hR.1 hR.2.1 hd hR.2.2) ⟨PcQ_blind, vk_recv (i := 0) hQ.1 (by decide) hS, PcQ_pre hQ hS⟩ (g := F0 mt pc ls st0) rfl hn hsz hst (lv_room hrm) hdg hcs
  exact vp_callSi hr.run (fun r0 h => by rw [h]; exact kk)
theorem q_qS (C : CallFix p mt c cc nL s args tb own) (hQ : SQ A k v s s.heap) (hS : va_S A s.heap H locs) (hM : mQ l y (wT y bytes maxL ret) rm A k v As r) (gd : GoodIn tb (va_wsS own idx y (wT y bytes maxL ret)))
    (hd : y.cls ≠ "java/lang/invoke/MethodHandle" ∧ y.cls ≠ "java/lang/invoke/VarHandle" ∧ (parseMethodDescriptor y.desc).map (fun d => d.parameters.length) = some n) (hn : As.length = n) (hR : rm.cells = 0 ∧ rm.slots = 0 ∧ rm.frames + 1 ≤ R.frames ∧ 8 + (maxL + 11) + rm.locals ≤ R.locals) (hcs : cells ≤ R.cells ∧ slots ≤ R.slots) (hsz : ls.size = nL) (hst : st0 = As.reverse ++ rest) (hrm : (rest.map fun v => v.category).sum ≤ 8) (hdg : decode cc pc = .ok (.invokestatic idx, 3))
    (kk : W p l e R s mt args below meth c H locs cells slots Q (F0 mt (pc + 3) ls (.int (iI r) :: rest))) : W p l e R s mt args below meth c H locs cells slots Q (F0 mt pc ls st0) := by
  have hr := va_runS (e := e) (below := below) (meth := meth) (locs := locs) C hM (va_cwS n C.2.2.2.2 gd rfl hR.1 hR.2.1 hd hR.2.2) ⟨PcQ_blind, PcQ_pre hQ hS⟩ (g := F0 mt pc ls st0) rfl hn hsz hst (lv_room hrm) hdg hcs
  exact vp_callSi hr.run (fun r0 h => by rw [h]; exact kk)
theorem q_qSv (C : CallFix p mt c cc nL s args tb own) (hQ : SQ A k v s s.heap) (hS : va_S A s.heap H locs) (hM : mQv l y (wT y bytes maxL ret) rm A k v As) (gd : GoodIn tb (va_wsS own idx y (wT y bytes maxL ret)))
    (hd : y.cls ≠ "java/lang/invoke/MethodHandle" ∧ y.cls ≠ "java/lang/invoke/VarHandle" ∧ (parseMethodDescriptor y.desc).map (fun d => d.parameters.length) = some n) (hn : As.length = n) (hR : rm.cells = 0 ∧ rm.slots = 0 ∧ rm.frames + 1 ≤ R.frames ∧ 8 + (maxL + 11) + rm.locals ≤ R.locals) (hcs : cells ≤ R.cells ∧ slots ≤ R.slots) (hsz : ls.size = nL) (hst : st0 = As.reverse ++ rest) (hrm : (rest.map fun v => v.category).sum ≤ 8) (hdg : decode cc pc = .ok (.invokestatic idx, 3))
    (kk : W p l e R s mt args below meth c H locs cells slots Q (F0 mt (pc + 3) ls rest)) : W p l e R s mt args below meth c H locs cells slots Q (F0 mt pc ls st0) := by
  have hr := va_runS (e := e) (below := below) (meth := meth) (locs := locs) C hM (va_cwS n C.2.2.2.2 gd rfl hR.1 hR.2.1 hd hR.2.2) ⟨PcQ_blind, PcQ_pre hQ hS⟩ (g := F0 mt pc ls st0) rfl hn hsz hst (lv_room hrm) hdg hcs
  exact va_csv hr.run (fun _ => kk)
end QC
def rQ (f lo : Nat) : Room := { frames := f, cells := 0, slots := 0, locals := lo }
theorem sg_cod : GoodIn tb (wsV "java/lang/String" 335 "java/lang/String" yJ0_coder_7d493 (wT yJ0_coder_7d493 cJ0_coder_7d493 1 (some .byte))) := good_app (in4 sl_cod si_cod ss_cod sn_str) (wT_good sc_cod)
theorem sg_lat : GoodIn tb (wsV "java/lang/String" 492 "java/lang/String" yJ0_isLatin1_aae02 (wT yJ0_isLatin1_aae02 cJ0_isLatin1_aae02 1 (some .boolean))) := good_app (in4 sl_lat si_lat ss_lat sn_str) (wT_good sc_lat)
theorem sg_lch : GoodIn tb (va_wsS "java/lang/String" 495 yJ1_charAt_3b067 (wT yJ1_charAt_3b067 cJ1_charAt_3b067 2 (some .char))) := good_app (in3 sl_lch st_lch sn_lt1) (wT_good sc_lch)
theorem sg_cix : GoodIn tb (va_wsS "java/lang/StringLatin1" 9 yJ0_checkIndex_df160 (wT yJ0_checkIndex_df160 cJ0_checkIndex_df160 2 none)) := good_app (in3 sl_cix st_cix sn_str) (wT_good sc_cix)
theorem sg_pix : GoodIn tb (va_wsS "java/lang/String" 1059 yJ3_checkIndex_8e157 (wT yJ3_checkIndex_8e157 cJ3_checkIndex_8e157 3 (some .int))) := good_app (in3 sl_pix st_pix sn_pre) (wT_good sc_pix)
theorem k_cod (l : Launch) {A : Nat → Prop} {k v : Nat} : mQ l yJ0_coder_7d493 (wT yJ0_coder_7d493 cJ0_coder_7d493 1 (some .byte)) (rQ 0 0) A k v [.ref k] 0 := by
  refine met_q (by decide) (Nat.le_of_ble_eq_true rfl) rfl (fun p e s mt args below meth c Q ls C hQ hl Kr => ?_)
  have hS : va_S A s.heap s.heap [] := va_S.rf
  refine va_gets C.1 C.2.1 hQ.2.2.1 hS C.2.2.2.1 (C.2.2.2.2 _ sf_cs) (fun _ h => h) dJ0_coder_7d493_0 ?_
  refine q_if_eq (a := 1) C (rl 1 rfl) 13 dJ0_coder_7d493_3 (by decide) (fun h => absurd h (by decide)) (fun _ => ?_)
  refine q_aload_n C hl 0 rfl rfl dJ0_coder_7d493_6 ?_
  refine vk_getf C.1 C.2.1 (hQ.1.1 0 (by decide)).2.1 hS C.2.2.2.1 (C.2.2.2.2 _ sf_cd) (fun _ h => h) dJ0_coder_7d493_7 ?_
  refine q_goto C 14 dJ0_coder_7d493_10 (by decide) ?_
  exact Kr _ _ dJ0_coder_7d493_14
theorem k_lat (l : Launch) {A : Nat → Prop} {k v : Nat} : mQ l yJ0_isLatin1_aae02 (wT yJ0_isLatin1_aae02 cJ0_isLatin1_aae02 1 (some .boolean)) (rQ 0 0) A k v [.ref k] 1 := by
  refine met_q (by decide) (Nat.le_of_ble_eq_true rfl) rfl (fun p e s mt args below meth c Q ls C hQ hl Kr => ?_)
  have hS : va_S A s.heap s.heap [] := va_S.rf
  refine va_gets C.1 C.2.1 hQ.2.2.1 hS C.2.2.2.1 (C.2.2.2.2 _ sf_cs) (fun _ h => h) dJ0_isLatin1_aae02_0 ?_
  refine q_if_eq (a := 1) C (rl 1 rfl) 17 dJ0_isLatin1_aae02_3 (by decide) (fun h => absurd h (by decide)) (fun _ => ?_)
  refine q_aload_n C hl 0 rfl rfl dJ0_isLatin1_aae02_6 ?_
  refine vk_getf C.1 C.2.1 (hQ.1.1 0 (by decide)).2.1 hS C.2.2.2.1 (C.2.2.2.2 _ sf_cd) (fun _ h => h) dJ0_isLatin1_aae02_7 ?_
  refine q_if_ne (a := 0) C (rl 0 rfl) 17 dJ0_isLatin1_aae02_10 (by decide) (fun _ => ?_) (fun h => absurd rfl h)
  refine q_iconst C 1 dJ0_isLatin1_aae02_13 ?_
  refine q_goto C 18 dJ0_isLatin1_aae02_14 (by decide) ?_
  exact Kr _ _ dJ0_isLatin1_aae02_18
theorem k_len (l : Launch) {A : Nat → Prop} {k v : Nat} : mQ l yJ0_length_8abf5 (wT yJ0_length_8abf5 cJ0_length_8abf5 1 (some .int)) (rQ 1 20) A k v [.ref k] 59 := by
  refine met_q (by decide) (Nat.le_of_ble_eq_true rfl) rfl (fun p e s mt args below meth c Q ls C hQ hl Kr => ?_)
  have hS : va_S A s.heap s.heap [] := va_S.rf
  refine q_aload_n C hl 0 rfl rfl dJ0_length_8abf5_0 ?_
  refine vk_getf C.1 C.2.1 (hQ.1.1 0 (by decide)).2.2.1 hS C.2.2.2.1 (C.2.2.2.2 _ sf_vl) (fun _ h => h) dJ0_length_8abf5_1 ?_
  refine va_tlen C.1 C.2.1 (hQ.1.1 0 (by decide)).2.2.2 hS (v := iI 59) (by decide) dJ0_length_8abf5_4 ?_
  refine q_aload_n C hl 0 rfl rfl dJ0_length_8abf5_5 ?_
  refine q_qV (As := []) (rest := [.int (iI 59)]) C hQ hS (k_cod l) sg_cod (by decide +kernel) rfl ⟨rfl, rfl, by decide, by decide⟩ ⟨Nat.zero_le _, Nat.zero_le _⟩ hl.1 rfl (Nat.le_of_ble_eq_true rfl) dJ0_length_8abf5_6 ?_
  refine q_ishr C dJ0_length_8abf5_9 ?_
  have e1 : bShr 59 0 = 59 := by decide
  rw [e1]
  exact Kr _ _ dJ0_length_8abf5_10
theorem k_pix (l : Launch) {A : Nat → Prop} {k v : Nat} {i : Int} {x : Value} (hx : x = .null ∨ ∃ q, x = .ref q) (hi : 0 ≤ i ∧ i < 59) : mQ l yJ3_checkIndex_8e157 (wT yJ3_checkIndex_8e157 cJ3_checkIndex_8e157 3 (some .int)) (rQ 0 0) A k v [.int (iI i), .int (iI 59), x] i := by
  have hr : r32 i := ⟨by omega, by omega⟩
  refine met_q (by decide) (by rcases hx with rfl | ⟨q, rfl⟩ <;> exact Nat.le_of_ble_eq_true rfl) rfl (fun p e s mt args below meth c Q ls C hQ hl Kr => ?_)
  have hl : lv_has ls 3 [(0, .int (iI i)), (1, .int (iI 59)), (2, x)] := hl
  refine q_iload_n C hl 0 rfl rfl dJ3_checkIndex_8e157_0 ?_
  refine q_if_lt C hr 9 dJ3_checkIndex_8e157_1 (by decide) (fun h => absurd h (by omega)) (fun _ => ?_)
  refine q_iload_n C hl 0 rfl rfl dJ3_checkIndex_8e157_4 ?_
  refine q_iload_n C hl 1 rfl rfl dJ3_checkIndex_8e157_5 ?_
  refine q_icmp_lt C hr (rl 59 rfl) 16 dJ3_checkIndex_8e157_6 (by decide) (fun _ => ?_) (fun h => absurd hi.2 h)
  refine q_iload_n C hl 0 rfl rfl dJ3_checkIndex_8e157_16 ?_
  exact Kr _ _ dJ3_checkIndex_8e157_17
theorem k_cix (l : Launch) {A : Nat → Prop} {k v : Nat} {i : Int} (hi : 0 ≤ i ∧ i < 59) : mQv l yJ0_checkIndex_df160 (wT yJ0_checkIndex_df160 cJ0_checkIndex_df160 2 none) (rQ 1 30) A k v [.int (iI i), .int (iI 59)] := by
  refine met_qv (by decide) (Nat.le_of_ble_eq_true rfl) (fun p e s mt args below meth c Q ls C hQ hl Kr => ?_)
  have hS : va_S A s.heap s.heap [] := va_S.rf
  refine q_iload_n C hl 0 rfl rfl dJ0_checkIndex_df160_0 ?_
  refine q_iload_n C hl 1 rfl rfl dJ0_checkIndex_df160_1 ?_
  rcases hQ.2.2.2 with hz | ⟨t, hz⟩
  · refine va_gets C.1 C.2.1 hz hS C.2.2.2.1 (C.2.2.2.2 _ sf_fm) (fun _ h => h) dJ0_checkIndex_df160_2 ?_
    refine q_qS (n := 3) (As := [.int (iI i), .int (iI 59), .null]) (rest := []) C hQ hS (k_pix l (Or.inl rfl) hi) sg_pix (by decide +kernel) rfl ⟨rfl, rfl, by decide, by decide⟩ ⟨Nat.zero_le _, Nat.zero_le _⟩ hl.1 rfl (Nat.le_of_ble_eq_true rfl) dJ0_checkIndex_df160_5 ?_
    refine q_pop C rfl dJ0_checkIndex_df160_8 ?_
    exact Kr _ _ dJ0_checkIndex_df160_9
  · refine va_gets C.1 C.2.1 hz hS C.2.2.2.1 (C.2.2.2.2 _ sf_fm) (fun _ h => h) dJ0_checkIndex_df160_2 ?_
    refine q_qS (n := 3) (As := [.int (iI i), .int (iI 59), .ref t]) (rest := []) C hQ hS (k_pix l (Or.inr ⟨t, rfl⟩) hi) sg_pix (by decide +kernel) rfl ⟨rfl, rfl, by decide, by decide⟩ ⟨Nat.zero_le _, Nat.zero_le _⟩ hl.1 rfl (Nat.le_of_ble_eq_true rfl) dJ0_checkIndex_df160_5 ?_
    refine q_pop C rfl dJ0_checkIndex_df160_8 ?_
    exact Kr _ _ dJ0_checkIndex_df160_9
theorem sAt_all : ∀ n, n < 59 → c16 (bAnd (strI.getD n 0) 255) = strI.getD n 0 ∧ 0 ≤ strI.getD n 0 ∧ strI.getD n 0 < 128 ∧ (strI.map iI).getD n 0 = iI (strI.getD n 0) := by decide +kernel
theorem sAt_ok {i : Int} (hi : 0 ≤ i ∧ i < 59) : 0 ≤ sAt i ∧ sAt i < 128 := by
  have h := sAt_all i.toNat (by omega)
  exact ⟨h.2.1, h.2.2.1⟩
theorem nar_c {x : Int} (h : 0 ≤ x ∧ x < 65536) : narrow .char (.int (iI x)) = .int (iI x) := by
  have hq : iI x = nI x.toNat := by
    show Int32.ofInt x = Int32.ofNat x.toNat
    rw [← Int32.ofInt_eq_ofNat, Int.toNat_of_nonneg h.1]
  rw [hq]
  exact (pk_charN (q := x.toNat) (by omega)).1
theorem k_lch (l : Launch) {A : Nat → Prop} {k v : Nat} {i : Int} (hi : 0 ≤ i ∧ i < 59) : mQ l yJ1_charAt_3b067 (wT yJ1_charAt_3b067 cJ1_charAt_3b067 2 (some .char)) (rQ 2 60) A k v [.ref v, .int (iI i)] (sAt i) := by
  have hs := sAt_ok hi
  refine met_q (by decide) (Nat.le_of_ble_eq_true rfl) (nar_c ⟨hs.1, by omega⟩) (fun p e s mt args below meth c Q ls C hQ hl Kr => ?_)
  have hS : va_S A s.heap s.heap [] := va_S.rf
  have hT := (hQ.1.1 0 (by decide)).2.2.2
  refine q_iload_n C hl 1 rfl rfl dJ1_charAt_3b067_0 ?_
  refine q_aload_n C hl 0 rfl rfl dJ1_charAt_3b067_1 ?_
  refine va_tlen C.1 C.2.1 hT hS (v := iI 59) (by decide) dJ1_charAt_3b067_2 ?_
  refine q_qSv (n := 2) (As := [.int (iI i), .int (iI 59)]) (rest := []) C hQ hS (k_cix l hi) sg_cix (by decide +kernel) rfl ⟨rfl, rfl, by decide, by decide⟩ ⟨Nat.zero_le _, Nat.zero_le _⟩ hl.1 rfl (Nat.le_of_ble_eq_true rfl) dJ1_charAt_3b067_3 ?_
  refine q_aload_n C hl 0 rfl rfl dJ1_charAt_3b067_6 ?_
  refine q_iload_n C hl 1 rfl rfl dJ1_charAt_3b067_7 ?_
  have ha := sAt_all i.toNat (by omega)
  refine va_tb C.1 C.2.1 hT hS (v := .int (iI (sAt i))) (iI_in hi.1 (by show i < ((59 : Nat) : Int); omega) (by omega)) ?_ dJ1_charAt_3b067_8 ?_
  · rw [iI_cl hi.1 (by omega)]
    show Value.int ((strI.map iI).getD i.toNat 0) = _
    rw [ha.2.2.2]
    rfl
  · refine q_sipush C 255 (by decide) dJ1_charAt_3b067_9 ?_
    refine q_iand C dJ1_charAt_3b067_12 ?_
    refine q_i2c C dJ1_charAt_3b067_13 ?_
    have e1 : c16 (bAnd (sAt i) 255) = sAt i := ha.1
    rw [e1]
    exact Kr _ _ dJ1_charAt_3b067_14
theorem k_cha (l : Launch) {A : Nat → Prop} {k v : Nat} {i : Int} (hi : 0 ≤ i ∧ i < 59) : mQ l yJ0_charAt_5068e (wT yJ0_charAt_5068e cJ0_charAt_5068e 2 (some .char)) (rQ 3 100) A k v [.ref k, .int (iI i)] (sAt i) := by
  have hs := sAt_ok hi
  refine met_q (by decide) (Nat.le_of_ble_eq_true rfl) (nar_c ⟨hs.1, by omega⟩) (fun p e s mt args below meth c Q ls C hQ hl Kr => ?_)
  have hS : va_S A s.heap s.heap [] := va_S.rf
  refine q_aload_n C hl 0 rfl rfl dJ0_charAt_5068e_0 ?_
  refine q_qV (As := []) (rest := []) C hQ hS (k_lat l) sg_lat (by decide +kernel) rfl ⟨rfl, rfl, by decide, by decide⟩ ⟨Nat.zero_le _, Nat.zero_le _⟩ hl.1 rfl (Nat.le_of_ble_eq_true rfl) dJ0_charAt_5068e_1 ?_
  refine q_if_eq (a := 1) C (rl 1 rfl) 16 dJ0_charAt_5068e_4 (by decide) (fun h => absurd h (by decide)) (fun _ => ?_)
  refine q_aload_n C hl 0 rfl rfl dJ0_charAt_5068e_7 ?_
  refine vk_getf C.1 C.2.1 (hQ.1.1 0 (by decide)).2.2.1 hS C.2.2.2.1 (C.2.2.2.2 _ sf_vl) (fun _ h => h) dJ0_charAt_5068e_8 ?_
  refine q_iload_n C hl 1 rfl rfl dJ0_charAt_5068e_11 ?_
  refine q_qS (n := 2) (As := [.ref v, .int (iI i)]) (rest := []) C hQ hS (k_lch l hi) sg_lch (by decide +kernel) rfl ⟨rfl, rfl, by decide, by decide⟩ ⟨Nat.zero_le _, Nat.zero_le _⟩ hl.1 rfl (Nat.le_of_ble_eq_true rfl) dJ0_charAt_5068e_12 ?_
  exact Kr _ _ dJ0_charAt_5068e_15
theorem sg_len : GoodIn tb (wsV RX10 63 "java/lang/String" yJ0_length_8abf5 (wT yJ0_length_8abf5 cJ0_length_8abf5 1 (some .int))) := good_app (in4 sl_len si_len ss_len sn_str) (wT_good sc_len)
theorem sg_cha : GoodIn tb (wsV RX10 69 "java/lang/String" yJ0_charAt_5068e (wT yJ0_charAt_5068e cJ0_charAt_5068e 2 (some .char))) := good_app (in4 sl_cha si_cha ss_cha sn_str) (wT_good sc_cha)
section QX
variable {p : Program} {l : Launch} {e : Env} {R : Room} {s : State} {mt : MethodId} {args : Array Value} {below : List Frame} {meth : Method} {c : Code} {H : Heap} {locs : List Loc} {cells slots : Nat} {Q : State → Prop}
variable {cc : ByteArray} {pc nL : Nat} {ls : Array Slot} {rest : List Value} {G : Gl} {A : Nat → Prop} {H0 : Heap} {ad : Int → Nat} {g : Shp} {m : Mem} {k v : Nat}
theorem q_ldcs (C : CallFix p mt c cc nL s args tb RX10) (hQ : SQ A k v s s.heap) (hdg : decode cc pc = .ok (.ldc 61, 2)) (kk : W p l e R s mt args below meth c H locs cells slots Q (F0 mt (pc + 2) ls (.ref k :: rest))) : W p l e R s mt args below meth c H locs cells slots Q (F0 mt pc ls rest) := va_ldcS C.1 C.2.1 C.2.2.2.1 hQ.2.1 hdg kk
theorem q_slen (C : CallFix p mt c cc nL s args tb RX10) (S : Wd G A s H0 ad g m H locs) (hH : H0 = s.heap) (hQ : SQ A k v s s.heap) (hfr : 2 ≤ R.frames ∧ 40 ≤ R.locals) (hcs : cells ≤ R.cells ∧ slots ≤ R.slots) (hsz : ls.size = nL) (hrm : (rest.map fun v => v.category).sum ≤ 8) (hdg : decode cc pc = .ok (.invokevirtual 63, 3)) (kk : W p l e R s mt args below meth c H locs cells slots Q (F0 mt (pc + 3) ls (.int (iI 59) :: rest))) : W p l e R s mt args below meth c H locs cells slots Q (F0 mt pc ls (.ref k :: rest)) := by
  subst hH
  exact q_qV (n := 0) (As := []) (rest := rest) C hQ S.2.2.2.1 (k_len l) sg_len (by decide +kernel) rfl ⟨rfl, rfl, hfr.1, hfr.2⟩ hcs hsz rfl hrm hdg kk
theorem q_schar (C : CallFix p mt c cc nL s args tb RX10) (S : Wd G A s H0 ad g m H locs) (hH : H0 = s.heap) (hQ : SQ A k v s s.heap) {i : Int} (hi : 0 ≤ i ∧ i < 59) (hfr : 4 ≤ R.frames ∧ 121 ≤ R.locals) (hcs : cells ≤ R.cells ∧ slots ≤ R.slots) (hsz : ls.size = nL) (hrm : (rest.map fun v => v.category).sum ≤ 8) (hdg : decode cc pc = .ok (.invokevirtual 69, 3)) (kk : W p l e R s mt args below meth c H locs cells slots Q (F0 mt (pc + 3) ls (.int (iI (sAt i)) :: rest))) : W p l e R s mt args below meth c H locs cells slots Q (F0 mt pc ls (.int (iI i) :: .ref k :: rest)) := by
  subst hH
  exact q_qV (n := 1) (As := [.int (iI i)]) (rest := rest) C hQ S.2.2.2.1 (k_cha l hi) sg_cha (by decide +kernel) rfl ⟨rfl, rfl, hfr.1, hfr.2⟩ hcs hsz rfl hrm hdg kk
end QX
theorem r32_s {i : Int} (hi : 0 ≤ i ∧ i < 59) : r32 (sAt i) := by
  have h := sAt_ok hi
  exact ⟨by omega, by omega⟩
/-- the class's constructor: its start knows the text constant too -/
def PcT (G : Gl) (ad : Int → Nat) (g : Shp) (m : Mem) (sz k v : Nat) (av : List Value) : Array Value → State → Prop :=
  va_Pc av (fun U => (U.heap.size = sz ∧ va_K G.1 vwCl (gT G) U ∧ va_P G.1 vwCl (wl G ad g m) U.heap ∧ va_D (fun _ => True) (wl G ad g m) ∧ gOk g ∧ mOk g m ∧ Ex U) ∧ SQ (va_A (wl G ad g m) U.heap.size) k v U U.heap)
def mVT (l : Launch) (y : MethodName) (ws : List Cond) (rm : Nat → Nat → Room) (G : Gl) (av : (Int → Nat) → List Value) (g : Shp) (m : Mem) (g' : Shp) (m' : Mem) : Prop :=
  ∀ (ad : Int → Nat) (sz k v : Nat), Met l y ws (rm (gn g' - gn g) (gs g' - gs g)) (PcT G ad g m sz k v (av ad)) (va_Qv (fun (ad' : Int → Nat) => gOk g' ∧ mOk g' m' ∧ aX g ad ad') (QA G ad g m sz g' m') (va_A (wl G ad g m) sz)) (gn g' - gn g) (gs g' - gs g) (va_A (wl G ad g m) sz)
theorem met_vT {l : Launch} {y : MethodName} {cc : ByteArray} {maxL : Nat} {rm : Nat → Nat → Room} {G : Gl} {av : (Int → Nat) → List Value} {g g' : Shp} {m m' : Mem} (hy : plainName y.cls = true) (hlen : ∀ ad, (lg_sl (av ad)).length ≤ maxL) (hx : gOk g → gX g g')
    (body : ∀ (p : Program) (e : Env) (s : State) (mt : MethodId) (args : Array Value) (below : List Frame) (meth : Method) (c : Code) (Q : State → Prop) (A : Nat → Prop) (H0 H : Heap) (locs : List Loc) (ad : Int → Nat) (ls : Array Slot) (mc msl k v : Nat), mc = gn g' - gn g → msl = gs g' - gs g → CallFix p mt c cc maxL s args tb y.cls → meth.name = y.name → H0 = s.heap → SQ A k v s s.heap → Wd G A s H0 ad g m H locs → lv_has ls maxL (lv_args 0 (av ad)) →
      (∀ (ad' : Int → Nat) (H : Heap) (locs : List Loc) (pc : Nat) (ls : Array Slot) (cells slots : Nat), aX g ad ad' → gn g' = gn g + cells ∧ gs g' = gs g + slots → Wd G A s H0 ad' g' m' H locs → decode cc pc = .ok (.return_, 1) → W p l e (rm mc msl) s mt args below meth c H locs cells slots Q (F0 mt pc ls [])) → W p l e (rm mc msl) s mt args below meth c H locs 0 0 Q (F0 mt 0 ls [])) : mVT l y (wT y cc maxL none) rm G av g m g' m' := by
  intro ad sz k v
  refine Met.ofW (cc := cc) (maxL := maxL) (ret := none) hy rfl ?_
  intro p e s mt args below meth c s₁ B hml hv
  obtain ⟨rfl, ⟨rfl, hK, hP, hD, hg, hm, hE⟩, hQ⟩ := hv
  have hts := atoms_spec (ws := wT y cc maxL none) B.pre
  have hlocks := B.notSynchronized
  have hret := B.returns
  have C : CallFix p mt c cc maxL s (av ad).toArray tb y.cls := ⟨B.exec, B.bytes, hml, findClass_of_methodNamed B.named, fun w h => hts w (List.mem_cons_of_mem _ h)⟩
  have hl := lv_entry (av ad) (n := maxL) (hlen ad)
  rw [lg_entry_eq]
  refine body p e s mt _ below meth c _ (va_A (wl G ad g m) s.heap.size) s.heap s.heap [] ad _ _ _ k v rfl rfl C (name_of_methodNamed B.named B.method).1 rfl hQ ⟨hK, hP, hD.self, va_S.rf, fun q h => Or.inr h, hg, hm, hE⟩ hl (fun ad' H locs pc ls cells slots hax hcs S hdg => ?_)
  obtain ⟨hK1, hP1, hD1, hS1, hA1, hg1, hm1, hE1⟩ := S
  have e1 : gn g' - gn g = cells := by omega
  have e2 : gs g' - gs g = slots := by omega
  rw [e1, e2]
  exact W.vret B.exec B.bytes hret (fun t ht hW => ⟨⟨ad', rfl, ⟨hg1, hm1, hax⟩, by show va_P _ _ _ t.heap; rw [ht]; exact hP1, hD1⟩, hS1.F ht⟩) hS1.2.2 hdg
