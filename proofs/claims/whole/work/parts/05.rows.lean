/-! ===== rows: an instruction over the store ===== -/
section Rows1
variable {p : Program} {l : Launch} {e : Env} {R : Room} {s : State} {mt : MethodId} {args : Array Value} {below : List Frame} {meth : Method} {c : Code} {H : Heap} {locs : List Loc} {cells slots : Nat} {Q : State → Prop}
variable {cc : ByteArray} {pc nL : Nat} {ls : Array Slot} {rest : List Value} {own : String} {G : Gl} {A : Nat → Prop} {H0 : Heap} {ad : Int → Nat} {g : Shp} {m : Mem}
theorem q_iconst (C : CallFix p mt c cc nL s args tb own) (n : Int) (hdg : decode cc pc = .ok (.iconst n, 1)) (kk : W p l e R s mt args below meth c H locs cells slots Q (F0 mt (pc + 1) ls (.int (iI n) :: rest))) : W p l e R s mt args below meth c H locs cells slots Q (F0 mt pc ls rest) := lv_iconst C.1 C.2.1 hdg rfl kk
theorem q_bipush (C : CallFix p mt c cc nL s args tb own) (n : Int) (hn : (Int8.ofInt n).toInt32 = iI n) (hdg : decode cc pc = .ok (.bipush n, 2)) (kk : W p l e R s mt args below meth c H locs cells slots Q (F0 mt (pc + 2) ls (.int (iI n) :: rest))) : W p l e R s mt args below meth c H locs cells slots Q (F0 mt pc ls rest) := lv_bipush C.1 C.2.1 hdg hn kk
theorem q_sipush (C : CallFix p mt c cc nL s args tb own) (n : Int) (hn : (Int16.ofInt n).toInt32 = iI n) (hdg : decode cc pc = .ok (.sipush n, 3)) (kk : W p l e R s mt args below meth c H locs cells slots Q (F0 mt (pc + 3) ls (.int (iI n) :: rest))) : W p l e R s mt args below meth c H locs cells slots Q (F0 mt pc ls rest) := lv_sipush C.1 C.2.1 hdg hn kk
theorem q_ldc (C : CallFix p mt c cc nL s args tb own) (n : Int) {idx : Nat} {v : Int32} (hn : v = iI n) (hw : Cond.constant own idx v ∈ tb) (hdg : decode cc pc = .ok (.ldc idx, 2)) (kk : W p l e R s mt args below meth c H locs cells slots Q (F0 mt (pc + 2) ls (.int (iI n) :: rest))) : W p l e R s mt args below meth c H locs cells slots Q (F0 mt pc ls rest) := by
  subst hn
  exact lv_ldc C.1 C.2.1 C.2.2.2.1 (C.2.2.2.2 _ hw) hdg kk
theorem q_ldcw (C : CallFix p mt c cc nL s args tb own) (n : Int) {idx : Nat} {v : Int32} (hn : v = iI n) (hw : Cond.constant own idx v ∈ tb) (hdg : decode cc pc = .ok (.ldc_w idx, 3)) (kk : W p l e R s mt args below meth c H locs cells slots Q (F0 mt (pc + 3) ls (.int (iI n) :: rest))) : W p l e R s mt args below meth c H locs cells slots Q (F0 mt pc ls rest) := by
  subst hn
  exact lv_ldcw C.1 C.2.1 C.2.2.2.1 (C.2.2.2.2 _ hw) hdg kk
theorem q_iload_n (C : CallFix p mt c cc nL s args tb own) {lv : List (Nat × Value)} (hl : lv_has ls nL lv) (k : Nat) {i : Nat} {f : Fin 4} {x : Int} (hk : lv[k]? = some (i, .int (iI x))) (hi : (f : Nat) = i) (hdg : decode cc pc = .ok (.iload_n f, 1)) (kk : W p l e R s mt args below meth c H locs cells slots Q (F0 mt (pc + 1) ls (.int (iI x) :: rest))) : W p l e R s mt args below meth c H locs cells slots Q (F0 mt pc ls rest) := lv_iload_n C.1 C.2.1 hdg hi (lv_at hl k hk) kk
theorem q_iload (C : CallFix p mt c cc nL s args tb own) {lv : List (Nat × Value)} (hl : lv_has ls nL lv) (k : Nat) {i : Nat} {x : Int} (hk : lv[k]? = some (i, .int (iI x))) (hdg : decode cc pc = .ok (.iload i, 2)) (kk : W p l e R s mt args below meth c H locs cells slots Q (F0 mt (pc + 2) ls (.int (iI x) :: rest))) : W p l e R s mt args below meth c H locs cells slots Q (F0 mt pc ls rest) := lv_iload C.1 C.2.1 hdg (lv_at hl k hk) kk
theorem q_aload_n (C : CallFix p mt c cc nL s args tb own) {lv : List (Nat × Value)} (hl : lv_has ls nL lv) (k : Nat) {i : Nat} {f : Fin 4} {x : Nat} (hk : lv[k]? = some (i, .ref x)) (hi : (f : Nat) = i) (hdg : decode cc pc = .ok (.aload_n f, 1)) (kk : W p l e R s mt args below meth c H locs cells slots Q (F0 mt (pc + 1) ls (.ref x :: rest))) : W p l e R s mt args below meth c H locs cells slots Q (F0 mt pc ls rest) := lv_aload_n C.1 C.2.1 hdg hi (lv_at hl k hk) kk
theorem q_aload (C : CallFix p mt c cc nL s args tb own) {lv : List (Nat × Value)} (hl : lv_has ls nL lv) (k : Nat) {i : Nat} {x : Nat} (hk : lv[k]? = some (i, .ref x)) (hdg : decode cc pc = .ok (.aload i, 2)) (kk : W p l e R s mt args below meth c H locs cells slots Q (F0 mt (pc + 2) ls (.ref x :: rest))) : W p l e R s mt args below meth c H locs cells slots Q (F0 mt pc ls rest) := lv_aload C.1 C.2.1 hdg (lv_at hl k hk) kk
/-- the list of known locals behind a store -/
def lvs (i : Nat) (v : Value) (lv : List (Nat × Value)) : List (Nat × Value) := (i, v) :: lv.filter (fun q => !(q.1 == i) && !(q.1 + 1 == i && q.2.category == 2))
theorem q_istore_n (C : CallFix p mt c cc nL s args tb own) {lv : List (Nat × Value)} (hl : lv_has ls nL lv) (lv' : List (Nat × Value)) {i : Nat} {f : Fin 4} {x y : Int} (hy : y = x) (hi : (f : Nat) = i) (hn : i < nL) (he : lvs i (.int (iI y)) lv = lv') (hdg : decode cc pc = .ok (.istore_n f, 1)) (kk : ∀ ls : Array Slot, lv_has ls nL lv' → W p l e R s mt args below meth c H locs cells slots Q (F0 mt (pc + 1) ls rest)) : W p l e R s mt args below meth c H locs cells slots Q (F0 mt pc ls (.int (iI x) :: rest)) := by
  subst hy
  exact lv_istore_n C.1 C.2.1 hdg hi hl hn he kk
theorem q_istore (C : CallFix p mt c cc nL s args tb own) {lv : List (Nat × Value)} (hl : lv_has ls nL lv) (lv' : List (Nat × Value)) {i : Nat} {x y : Int} (hy : y = x) (hn : i < nL) (he : lvs i (.int (iI y)) lv = lv') (hdg : decode cc pc = .ok (.istore i, 2)) (kk : ∀ ls : Array Slot, lv_has ls nL lv' → W p l e R s mt args below meth c H locs cells slots Q (F0 mt (pc + 2) ls rest)) : W p l e R s mt args below meth c H locs cells slots Q (F0 mt pc ls (.int (iI x) :: rest)) := by
  subst hy
  exact lv_istore C.1 C.2.1 hdg hl hn he kk
theorem q_astore_n (C : CallFix p mt c cc nL s args tb own) {lv : List (Nat × Value)} (hl : lv_has ls nL lv) (lv' : List (Nat × Value)) {i : Nat} {f : Fin 4} {x y : Int} (hy : y = x) (hi : (f : Nat) = i) (hn : i < nL) (he : lvs i (.ref (ad y)) lv = lv') (hdg : decode cc pc = .ok (.astore_n f, 1)) (kk : ∀ ls : Array Slot, lv_has ls nL lv' → W p l e R s mt args below meth c H locs cells slots Q (F0 mt (pc + 1) ls rest)) : W p l e R s mt args below meth c H locs cells slots Q (F0 mt pc ls (.ref (ad x) :: rest)) := by
  subst hy
  exact lv_astore_n C.1 C.2.1 hdg hi hl hn he kk
theorem q_astore (C : CallFix p mt c cc nL s args tb own) {lv : List (Nat × Value)} (hl : lv_has ls nL lv) (lv' : List (Nat × Value)) {i : Nat} {x y : Int} (hy : y = x) (hn : i < nL) (he : lvs i (.ref (ad y)) lv = lv') (hdg : decode cc pc = .ok (.astore i, 2)) (kk : ∀ ls : Array Slot, lv_has ls nL lv' → W p l e R s mt args below meth c H locs cells slots Q (F0 mt (pc + 2) ls rest)) : W p l e R s mt args below meth c H locs cells slots Q (F0 mt pc ls (.ref (ad x) :: rest)) := by
  subst hy
  exact lv_astore C.1 C.2.1 hdg hl hn he kk
theorem q_iinc (C : CallFix p mt c cc nL s args tb own) {lv : List (Nat × Value)} (hl : lv_has ls nL lv) (k : Nat) (lv' : List (Nat × Value)) {i : Nat} {n x y : Int} (hk : lv[k]? = some (i, .int (iI x))) (hy : y = w32 (x + n)) (hn : i < nL) (he : lvs i (.int (iI y)) lv = lv') (hdg : decode cc pc = .ok (.iinc i n, 3)) (kk : ∀ ls : Array Slot, lv_has ls nL lv' → W p l e R s mt args below meth c H locs cells slots Q (F0 mt (pc + 3) ls rest)) : W p l e R s mt args below meth c H locs cells slots Q (F0 mt pc ls rest) :=
  lv_iinc C.1 C.2.1 hdg hl hk (by rw [hy]; exact iI_add x n) hn he kk
theorem q_iadd (C : CallFix p mt c cc nL s args tb own) {a b : Int} (hdg : decode cc pc = .ok (.iadd, 1)) (kk : W p l e R s mt args below meth c H locs cells slots Q (F0 mt (pc + 1) ls (.int (iI (w32 (a + b))) :: rest))) : W p l e R s mt args below meth c H locs cells slots Q (F0 mt pc ls (.int (iI b) :: .int (iI a) :: rest)) := lv_iadd C.1 C.2.1 hdg (by rw [iI_add]; exact kk)
theorem q_isub (C : CallFix p mt c cc nL s args tb own) {a b : Int} (hdg : decode cc pc = .ok (.isub, 1)) (kk : W p l e R s mt args below meth c H locs cells slots Q (F0 mt (pc + 1) ls (.int (iI (w32 (a - b))) :: rest))) : W p l e R s mt args below meth c H locs cells slots Q (F0 mt pc ls (.int (iI b) :: .int (iI a) :: rest)) := lv_isub C.1 C.2.1 hdg (by rw [iI_sub]; exact kk)
theorem q_imul (C : CallFix p mt c cc nL s args tb own) {a b : Int} (hdg : decode cc pc = .ok (.imul, 1)) (kk : W p l e R s mt args below meth c H locs cells slots Q (F0 mt (pc + 1) ls (.int (iI (w32 (a * b))) :: rest))) : W p l e R s mt args below meth c H locs cells slots Q (F0 mt pc ls (.int (iI b) :: .int (iI a) :: rest)) := lv_imul C.1 C.2.1 hdg (by rw [iI_mul]; exact kk)
theorem q_idiv (C : CallFix p mt c cc nL s args tb own) {a b : Int} (ha : r32 a) (hb : r32 b) (h0 : ¬ b = 0) (hdg : decode cc pc = .ok (.idiv, 1)) (kk : W p l e R s mt args below meth c H locs cells slots Q (F0 mt (pc + 1) ls (.int (iI (jdiv a b)) :: rest))) : W p l e R s mt args below meth c H locs cells slots Q (F0 mt pc ls (.int (iI b) :: .int (iI a) :: rest)) := lv_idiv C.1 C.2.1 hdg (fun h => h0 ((iI_eq0 hb).mp h)) (by rw [iI_div ha hb]; exact kk)
theorem q_irem (C : CallFix p mt c cc nL s args tb own) {a b : Int} (ha : r32 a) (hb : r32 b) (h0 : ¬ b = 0) (hdg : decode cc pc = .ok (.irem, 1)) (kk : W p l e R s mt args below meth c H locs cells slots Q (F0 mt (pc + 1) ls (.int (iI (jrem a b)) :: rest))) : W p l e R s mt args below meth c H locs cells slots Q (F0 mt pc ls (.int (iI b) :: .int (iI a) :: rest)) := lv_irem C.1 C.2.1 hdg (fun h => h0 ((iI_eq0 hb).mp h)) (by rw [iI_rem ha hb]; exact kk)
theorem q_iand (C : CallFix p mt c cc nL s args tb own) {a b : Int} (hdg : decode cc pc = .ok (.iand, 1)) (kk : W p l e R s mt args below meth c H locs cells slots Q (F0 mt (pc + 1) ls (.int (iI (bAnd a b)) :: rest))) : W p l e R s mt args below meth c H locs cells slots Q (F0 mt pc ls (.int (iI b) :: .int (iI a) :: rest)) := lv_iand C.1 C.2.1 hdg (by rw [bAnd, iI_of] at kk; exact kk)
theorem q_ior (C : CallFix p mt c cc nL s args tb own) {a b : Int} (hdg : decode cc pc = .ok (.ior, 1)) (kk : W p l e R s mt args below meth c H locs cells slots Q (F0 mt (pc + 1) ls (.int (iI (bOr a b)) :: rest))) : W p l e R s mt args below meth c H locs cells slots Q (F0 mt pc ls (.int (iI b) :: .int (iI a) :: rest)) := lv_ior C.1 C.2.1 hdg (by rw [bOr, iI_of] at kk; exact kk)
theorem q_ishl (C : CallFix p mt c cc nL s args tb own) {a b : Int} (hdg : decode cc pc = .ok (.ishl, 1)) (kk : W p l e R s mt args below meth c H locs cells slots Q (F0 mt (pc + 1) ls (.int (iI (bShl a b)) :: rest))) : W p l e R s mt args below meth c H locs cells slots Q (F0 mt pc ls (.int (iI b) :: .int (iI a) :: rest)) := lv_ishl C.1 C.2.1 hdg (by rw [bShl, iI_of] at kk; exact kk)
theorem q_ishr (C : CallFix p mt c cc nL s args tb own) {a b : Int} (hdg : decode cc pc = .ok (.ishr, 1)) (kk : W p l e R s mt args below meth c H locs cells slots Q (F0 mt (pc + 1) ls (.int (iI (bShr a b)) :: rest))) : W p l e R s mt args below meth c H locs cells slots Q (F0 mt pc ls (.int (iI b) :: .int (iI a) :: rest)) := lv_ishr C.1 C.2.1 hdg (by rw [bShr, iI_of] at kk; exact kk)
theorem q_iushr (C : CallFix p mt c cc nL s args tb own) {a b : Int} (hdg : decode cc pc = .ok (.iushr, 1)) (kk : W p l e R s mt args below meth c H locs cells slots Q (F0 mt (pc + 1) ls (.int (iI (bUshr a b)) :: rest))) : W p l e R s mt args below meth c H locs cells slots Q (F0 mt pc ls (.int (iI b) :: .int (iI a) :: rest)) := lv_iushr C.1 C.2.1 hdg rfl (by rw [bUshr, iI_of] at kk; exact kk)
theorem q_i2c (C : CallFix p mt c cc nL s args tb own) {a : Int} (hdg : decode cc pc = .ok (.i2c, 1)) (kk : W p l e R s mt args below meth c H locs cells slots Q (F0 mt (pc + 1) ls (.int (iI (c16 a)) :: rest))) : W p l e R s mt args below meth c H locs cells slots Q (F0 mt pc ls (.int (iI a) :: rest)) := lv_i2c C.1 C.2.1 hdg rfl (by rw [c16, iI_of] at kk; exact kk)
theorem q_dup (C : CallFix p mt c cc nL s args tb own) {v : Value} (hv : v.category = 1) (hdg : decode cc pc = .ok (.dup, 1)) (kk : W p l e R s mt args below meth c H locs cells slots Q (F0 mt (pc + 1) ls (v :: v :: rest))) : W p l e R s mt args below meth c H locs cells slots Q (F0 mt pc ls (v :: rest)) := lv_dup C.1 C.2.1 hdg hv kk
theorem q_pop (C : CallFix p mt c cc nL s args tb own) {v : Value} (hv : v.category = 1) (hdg : decode cc pc = .ok (.pop, 1)) (kk : W p l e R s mt args below meth c H locs cells slots Q (F0 mt (pc + 1) ls (rest))) : W p l e R s mt args below meth c H locs cells slots Q (F0 mt pc ls (v :: rest)) := lv_pop C.1 C.2.1 hdg hv kk
theorem q_dup2 (C : CallFix p mt c cc nL s args tb own) {v w : Value} (hv : v.category = 1) (hw : w.category = 1) (hdg : decode cc pc = .ok (.dup2, 1)) (kk : W p l e R s mt args below meth c H locs cells slots Q (F0 mt (pc + 1) ls (v :: w :: v :: w :: rest))) : W p l e R s mt args below meth c H locs cells slots Q (F0 mt pc ls (v :: w :: rest)) := lv_dup2_11 C.1 C.2.1 hdg hv hw kk
theorem q_goto (C : CallFix p mt c cc nL s args tb own) {off : Int} (tgt : Nat) (hdg : decode cc pc = .ok (.goto off, 3)) (ht : (pc : Int) + off = (tgt : Int)) (kk : W p l e R s mt args below meth c H locs cells slots Q (F0 mt tgt ls rest)) : W p l e R s mt args below meth c H locs cells slots Q (F0 mt pc ls rest) := lv_goto C.1 C.2.1 hdg ht kk
theorem q_if_eq (C : CallFix p mt c cc nL s args tb own) {a off : Int} (ha : r32 a) (tgt : Nat) (hdg : decode cc pc = .ok (.ifCond .eq off, 3)) (ht : (pc : Int) + off = (tgt : Int)) (kt : a = 0 → W p l e R s mt args below meth c H locs cells slots Q (F0 mt tgt ls rest)) (kf : ¬ a = 0 → W p l e R s mt args below meth c H locs cells slots Q (F0 mt (pc + 3) ls rest)) : W p l e R s mt args below meth c H locs cells slots Q (F0 mt pc ls (.int (iI a) :: rest)) := lv_if_eq C.1 C.2.1 hdg ht (fun h => kt ((iI_eq0 ha).mp h)) (fun h => kf (fun h2 => h ((iI_eq0 ha).mpr h2)))
theorem q_if_ne (C : CallFix p mt c cc nL s args tb own) {a off : Int} (ha : r32 a) (tgt : Nat) (hdg : decode cc pc = .ok (.ifCond .ne off, 3)) (ht : (pc : Int) + off = (tgt : Int)) (kf : a = 0 → W p l e R s mt args below meth c H locs cells slots Q (F0 mt (pc + 3) ls rest)) (kt : ¬ a = 0 → W p l e R s mt args below meth c H locs cells slots Q (F0 mt tgt ls rest)) : W p l e R s mt args below meth c H locs cells slots Q (F0 mt pc ls (.int (iI a) :: rest)) := lv_if_ne C.1 C.2.1 hdg ht (fun h => kt (fun h2 => h ((iI_eq0 ha).mpr h2))) (fun h => kf ((iI_eq0 ha).mp h))
theorem q_if_lt (C : CallFix p mt c cc nL s args tb own) {a off : Int} (ha : r32 a) (tgt : Nat) (hdg : decode cc pc = .ok (.ifCond .lt off, 3)) (ht : (pc : Int) + off = (tgt : Int)) (kt : a < 0 → W p l e R s mt args below meth c H locs cells slots Q (F0 mt tgt ls rest)) (kf : ¬ a < 0 → W p l e R s mt args below meth c H locs cells slots Q (F0 mt (pc + 3) ls rest)) : W p l e R s mt args below meth c H locs cells slots Q (F0 mt pc ls (.int (iI a) :: rest)) := lv_if_lt C.1 C.2.1 hdg ht (fun h => kt ((iI_lt0 ha).mp h)) (fun h => kf (fun h2 => h ((iI_lt0 ha).mpr h2)))
theorem q_if_ge (C : CallFix p mt c cc nL s args tb own) {a off : Int} (ha : r32 a) (tgt : Nat) (hdg : decode cc pc = .ok (.ifCond .ge off, 3)) (ht : (pc : Int) + off = (tgt : Int)) (kt : 0 ≤ a → W p l e R s mt args below meth c H locs cells slots Q (F0 mt tgt ls rest)) (kf : ¬ 0 ≤ a → W p l e R s mt args below meth c H locs cells slots Q (F0 mt (pc + 3) ls rest)) : W p l e R s mt args below meth c H locs cells slots Q (F0 mt pc ls (.int (iI a) :: rest)) := lv_if_ge C.1 C.2.1 hdg ht (fun h => kt ((iI_0le ha).mp h)) (fun h => kf (fun h2 => h ((iI_0le ha).mpr h2)))
theorem q_if_gt (C : CallFix p mt c cc nL s args tb own) {a off : Int} (ha : r32 a) (tgt : Nat) (hdg : decode cc pc = .ok (.ifCond .gt off, 3)) (ht : (pc : Int) + off = (tgt : Int)) (kt : 0 < a → W p l e R s mt args below meth c H locs cells slots Q (F0 mt tgt ls rest)) (kf : ¬ 0 < a → W p l e R s mt args below meth c H locs cells slots Q (F0 mt (pc + 3) ls rest)) : W p l e R s mt args below meth c H locs cells slots Q (F0 mt pc ls (.int (iI a) :: rest)) := lv_if_gt C.1 C.2.1 hdg ht (fun h => kt ((iI_0lt ha).mp h)) (fun h => kf (fun h2 => h ((iI_0lt ha).mpr h2)))
theorem q_if_le (C : CallFix p mt c cc nL s args tb own) {a off : Int} (ha : r32 a) (tgt : Nat) (hdg : decode cc pc = .ok (.ifCond .le off, 3)) (ht : (pc : Int) + off = (tgt : Int)) (kt : a ≤ 0 → W p l e R s mt args below meth c H locs cells slots Q (F0 mt tgt ls rest)) (kf : ¬ a ≤ 0 → W p l e R s mt args below meth c H locs cells slots Q (F0 mt (pc + 3) ls rest)) : W p l e R s mt args below meth c H locs cells slots Q (F0 mt pc ls (.int (iI a) :: rest)) := lv_if_le C.1 C.2.1 hdg ht (fun h => kt ((iI_le0 ha).mp h)) (fun h => kf (fun h2 => h ((iI_le0 ha).mpr h2)))
theorem q_icmp_eq (C : CallFix p mt c cc nL s args tb own) {a b off : Int} (ha : r32 a) (hb : r32 b) (tgt : Nat) (hdg : decode cc pc = .ok (.if_icmp .eq off, 3)) (ht : (pc : Int) + off = (tgt : Int)) (kt : a = b → W p l e R s mt args below meth c H locs cells slots Q (F0 mt tgt ls rest)) (kf : ¬ a = b → W p l e R s mt args below meth c H locs cells slots Q (F0 mt (pc + 3) ls rest)) : W p l e R s mt args below meth c H locs cells slots Q (F0 mt pc ls (.int (iI b) :: .int (iI a) :: rest)) := lv_icmp_eq C.1 C.2.1 hdg ht (fun h => kt ((iI_eq ha hb).mp h)) (fun h => kf (fun h2 => h ((iI_eq ha hb).mpr h2)))
theorem q_icmp_ne (C : CallFix p mt c cc nL s args tb own) {a b off : Int} (ha : r32 a) (hb : r32 b) (tgt : Nat) (hdg : decode cc pc = .ok (.if_icmp .ne off, 3)) (ht : (pc : Int) + off = (tgt : Int)) (kf : a = b → W p l e R s mt args below meth c H locs cells slots Q (F0 mt (pc + 3) ls rest)) (kt : ¬ a = b → W p l e R s mt args below meth c H locs cells slots Q (F0 mt tgt ls rest)) : W p l e R s mt args below meth c H locs cells slots Q (F0 mt pc ls (.int (iI b) :: .int (iI a) :: rest)) := lv_icmp_ne C.1 C.2.1 hdg ht (fun h => kt (fun h2 => h ((iI_eq ha hb).mpr h2))) (fun h => kf ((iI_eq ha hb).mp h))
theorem q_icmp_lt (C : CallFix p mt c cc nL s args tb own) {a b off : Int} (ha : r32 a) (hb : r32 b) (tgt : Nat) (hdg : decode cc pc = .ok (.if_icmp .lt off, 3)) (ht : (pc : Int) + off = (tgt : Int)) (kt : a < b → W p l e R s mt args below meth c H locs cells slots Q (F0 mt tgt ls rest)) (kf : ¬ a < b → W p l e R s mt args below meth c H locs cells slots Q (F0 mt (pc + 3) ls rest)) : W p l e R s mt args below meth c H locs cells slots Q (F0 mt pc ls (.int (iI b) :: .int (iI a) :: rest)) := lv_icmp_lt C.1 C.2.1 hdg ht (fun h => kt ((iI_lt ha hb).mp h)) (fun h => kf (fun h2 => h ((iI_lt ha hb).mpr h2)))
theorem q_icmp_ge (C : CallFix p mt c cc nL s args tb own) {a b off : Int} (ha : r32 a) (hb : r32 b) (tgt : Nat) (hdg : decode cc pc = .ok (.if_icmp .ge off, 3)) (ht : (pc : Int) + off = (tgt : Int)) (kt : b ≤ a → W p l e R s mt args below meth c H locs cells slots Q (F0 mt tgt ls rest)) (kf : ¬ b ≤ a → W p l e R s mt args below meth c H locs cells slots Q (F0 mt (pc + 3) ls rest)) : W p l e R s mt args below meth c H locs cells slots Q (F0 mt pc ls (.int (iI b) :: .int (iI a) :: rest)) := lv_icmp_ge C.1 C.2.1 hdg ht (fun h => kt ((iI_le hb ha).mp h)) (fun h => kf (fun h2 => h ((iI_le hb ha).mpr h2)))
theorem q_icmp_gt (C : CallFix p mt c cc nL s args tb own) {a b off : Int} (ha : r32 a) (hb : r32 b) (tgt : Nat) (hdg : decode cc pc = .ok (.if_icmp .gt off, 3)) (ht : (pc : Int) + off = (tgt : Int)) (kt : b < a → W p l e R s mt args below meth c H locs cells slots Q (F0 mt tgt ls rest)) (kf : ¬ b < a → W p l e R s mt args below meth c H locs cells slots Q (F0 mt (pc + 3) ls rest)) : W p l e R s mt args below meth c H locs cells slots Q (F0 mt pc ls (.int (iI b) :: .int (iI a) :: rest)) := lv_icmp_gt C.1 C.2.1 hdg ht (fun h => kt ((iI_lt hb ha).mp h)) (fun h => kf (fun h2 => h ((iI_lt hb ha).mpr h2)))
theorem q_icmp_le (C : CallFix p mt c cc nL s args tb own) {a b off : Int} (ha : r32 a) (hb : r32 b) (tgt : Nat) (hdg : decode cc pc = .ok (.if_icmp .le off, 3)) (ht : (pc : Int) + off = (tgt : Int)) (kt : a ≤ b → W p l e R s mt args below meth c H locs cells slots Q (F0 mt tgt ls rest)) (kf : ¬ a ≤ b → W p l e R s mt args below meth c H locs cells slots Q (F0 mt (pc + 3) ls rest)) : W p l e R s mt args below meth c H locs cells slots Q (F0 mt pc ls (.int (iI b) :: .int (iI a) :: rest)) := lv_icmp_le C.1 C.2.1 hdg ht (fun h => kt ((iI_le ha hb).mp h)) (fun h => kf (fun h2 => h ((iI_le ha hb).mpr h2)))
theorem q_tin (C : CallFix p mt c cc nL s args tb own) {v : Int} (hv : r32 v) (k : Int) (hk : v = k) {dflt lo hi : Int} {offs : Array Int} {len : Nat} (off : Int) (tgt : Nat) (hdg : decode cc pc = .ok (.tableswitch dflt lo hi offs, len)) (h1 : lo ≤ k ∧ k ≤ hi) (ho : offs[(k - lo).toNat]? = some off) (ht : (pc : Int) + off = (tgt : Int)) (kk : W p l e R s mt args below meth c H locs cells slots Q (F0 mt tgt ls rest)) : W p l e R s mt args below meth c H locs cells slots Q (F0 mt pc ls (.int (iI v) :: rest)) := by
  subst hk
  have he := iI_toInt hv
  exact lv_tableIn C.1 C.2.1 hdg (by rw [he]; omega) (by rw [he]; omega) (by rw [he]; exact ho) ht kk
theorem q_tout (C : CallFix p mt c cc nL s args tb own) {v : Int} (hv : r32 v) {dflt lo hi : Int} {offs : Array Int} {len : Nat} (tgt : Nat) (hdg : decode cc pc = .ok (.tableswitch dflt lo hi offs, len)) (h1 : v < lo ∨ hi < v) (ht : (pc : Int) + dflt = (tgt : Int)) (kk : W p l e R s mt args below meth c H locs cells slots Q (F0 mt tgt ls rest)) : W p l e R s mt args below meth c H locs cells slots Q (F0 mt pc ls (.int (iI v) :: rest)) := by
  have he := iI_toInt hv
  exact lv_tableOut C.1 C.2.1 hdg (by rw [he]; exact h1) ht kk
theorem q_look (C : CallFix p mt c cc nL s args tb own) {v : Int} (hv : r32 v) {dflt : Int} {ps : Array (Int × Int)} {len : Nat} (off : Int) (tgt : Nat) (hdg : decode cc pc = .ok (.lookupswitch dflt ps, len)) (hp : (ps.toList.zip (ps.toList.drop 1)).all (fun (a, next) => a.1 < next.1) = true) (ho : Op.lookupswitch.offset ps.toList dflt v = off) (ht : (pc : Int) + off = (tgt : Int)) (kk : W p l e R s mt args below meth c H locs cells slots Q (F0 mt tgt ls rest)) : W p l e R s mt args below meth c H locs cells slots Q (F0 mt pc ls (.int (iI v) :: rest)) := by
  have he := iI_toInt hv
  exact lv_lookup C.1 C.2.1 hdg hp (by rw [he]; exact ho) ht kk
/-! arrays -/
theorem eC_arr {r : Int} {k : Nat} (hk : gk g r = k) (h20 : 20 ≤ k) (h23 : k < 23) : eC G ad g m r = .inl (G.2 k, (gl g r).toNat, .inl (fun j : Nat => iI (m r (j : Int)))) := by
  unfold eC
  rw [hk, if_neg (by omega), if_pos h23]
theorem eC_arq {r : Int} {k : Nat} (hk : gk g r = k) (h23 : 23 ≤ k) : eC G ad g m r = .inl (G.2 k, (gl g r).toNat, .inr (.inr (.inr (.inr (fun j => orf ad (m r (j : Int))))))) := by
  unfold eC
  rw [hk, if_neg (by omega), if_neg (by omega)]
theorem ix_in (hg : gOk g) {r i : Int} (hi : 0 ≤ i ∧ i < gl g r) : vp_in (iI i) (gl g r).toNat ∧ (iI i).toNatClampNeg = i.toNat ∧ ((i.toNat : Nat) : Int) = i := by
  have h2 := hg.2.2 r
  exact ⟨iI_in hi.1 (by omega) (by omega), iI_cl hi.1 (by omega), by omega⟩
theorem q_iald (C : CallFix p mt c cc nL s args tb own) (S : Wd G A s H0 ad g m H locs) {r i : Int} (hk : gk g r = 20) (hi : 0 ≤ i ∧ i < gl g r) (hdg : decode cc pc = .ok (.iaload, 1)) (kk : W p l e R s mt args below meth c H locs cells slots Q (F0 mt (pc + 1) ls (.int (iI (m r i)) :: rest))) : W p l e R s mt args below meth c H locs cells slots Q (F0 mt pc ls (.int (iI i) :: .ref (ad r) :: rest)) := by
  obtain ⟨hK, hP, hD, hS, hA, hg, hm, hE⟩ := S
  have hat := wl_at (G := G) (ad := ad) (m := m) hg (r := r) (by omega)
  rw [eC_arr hk (by decide) (by decide)] at hat
  obtain ⟨h1, h2, h3⟩ := ix_in hg hi
  refine va_iald C.1 C.2.1 hK hP _ 0 hat rfl h1 hdg ?_
  rw [h2, h3]
  exact kk
theorem q_zald (C : CallFix p mt c cc nL s args tb own) (S : Wd G A s H0 ad g m H locs) {r i : Int} (hk : gk g r = 21) (hi : 0 ≤ i ∧ i < gl g r) (hdg : decode cc pc = .ok (.baload, 1)) (kk : W p l e R s mt args below meth c H locs cells slots Q (F0 mt (pc + 1) ls (.int (iI (m r i)) :: rest))) : W p l e R s mt args below meth c H locs cells slots Q (F0 mt pc ls (.int (iI i) :: .ref (ad r) :: rest)) := by
  obtain ⟨hK, hP, hD, hS, hA, hg, hm, hE⟩ := S
  have hat := wl_at (G := G) (ad := ad) (m := m) hg (r := r) (by omega)
  rw [eC_arr hk (by decide) (by decide)] at hat
  obtain ⟨h1, h2, h3⟩ := ix_in hg hi
  refine va_zald C.1 C.2.1 hK hP _ 1 hat rfl h1 hdg ?_
  rw [h2, h3]
  exact kk
theorem q_cald (C : CallFix p mt c cc nL s args tb own) (S : Wd G A s H0 ad g m H locs) {r i : Int} (hk : gk g r = 22) (hi : 0 ≤ i ∧ i < gl g r) (hdg : decode cc pc = .ok (.caload, 1)) (kk : W p l e R s mt args below meth c H locs cells slots Q (F0 mt (pc + 1) ls (.int (iI (m r i)) :: rest))) : W p l e R s mt args below meth c H locs cells slots Q (F0 mt pc ls (.int (iI i) :: .ref (ad r) :: rest)) := by
  obtain ⟨hK, hP, hD, hS, hA, hg, hm, hE⟩ := S
  have hat := wl_at (G := G) (ad := ad) (m := m) hg (r := r) (by omega)
  rw [eC_arr hk (by decide) (by decide)] at hat
  obtain ⟨h1, h2, h3⟩ := ix_in hg hi
  refine va_cald C.1 C.2.1 hK hP _ 2 hat rfl h1 hdg ?_
  rw [h2, h3]
  exact kk
theorem q_alen (C : CallFix p mt c cc nL s args tb own) (S : Wd G A s H0 ad g m H locs) {r : Int} {k : Nat} (hk : gk g r = k) (h20 : 20 ≤ k ∧ k < 27) (hdg : decode cc pc = .ok (.arraylength, 1)) (kk : W p l e R s mt args below meth c H locs cells slots Q (F0 mt (pc + 1) ls (.int (iI (gl g r)) :: rest))) : W p l e R s mt args below meth c H locs cells slots Q (F0 mt pc ls (.ref (ad r) :: rest)) := by
  obtain ⟨hK, hP, hD, hS, hA, hg, hm, hE⟩ := S
  have hat := wl_at (G := G) (ad := ad) (m := m) hg (r := r) (by omega)
  have h2 := hg.2.2 r
  have he : ∃ x, eC G ad g m r = .inl (G.2 k, (gl g r).toNat, x) := by
    by_cases h23 : k < 23
    · exact ⟨_, eC_arr hk h20.1 h23⟩
    · exact ⟨_, eC_arq hk (by omega)⟩
  obtain ⟨x, hx⟩ := he
  rw [hx] at hat
  have ht : ∃ ty, (gT G)[k - 20]? = some (G.2 k, ty) := by
    rcases (show k = 20 ∨ k = 21 ∨ k = 22 ∨ k = 23 ∨ k = 24 ∨ k = 25 ∨ k = 26 by omega) with rfl | rfl | rfl | rfl | rfl | rfl | rfl <;> exact ⟨_, rfl⟩
  obtain ⟨ty, ht⟩ := ht
  refine va_alen C.1 C.2.1 hK hP _ (k - 20) hat ht (v := iI (gl g r)) ?_ hdg kk
  show Int32.ofNat (gl g r).toNat = Int32.ofInt (gl g r)
  rw [← Int32.ofInt_eq_ofNat, Int.toNat_of_nonneg h2.1]
theorem upd_ms {r i v : Int} (hi : 0 ≤ i) : upd (fun j : Nat => iI (m r (j : Int))) i.toNat (iI v) = fun j : Nat => iI (ms m r i v r (j : Int)) := by
  funext j
  unfold upd ms
  by_cases h : j = i.toNat
  · have : (j : Int) = i := by omega
    simp [h, this, Int.toNat_of_nonneg hi]
  · have : ¬ (j : Int) = i := by omega
    simp [h, this]
theorem q_iast (C : CallFix p mt c cc nL s args tb own) (S : Wd G A s H0 ad g m H locs) {r i v : Int} (hk : gk g r = 20) (hi : 0 ≤ i ∧ i < gl g r) (hv : r32 v) {m' : Mem} (hm' : m' = ms m r i v) (hdg : decode cc pc = .ok (.iastore, 1)) (kk : ∀ (H : Heap) (locs : List Loc), Wd G A s H0 ad g m' H locs → W p l e R s mt args below meth c H locs cells slots Q (F0 mt (pc + 1) ls rest)) : W p l e R s mt args below meth c H locs cells slots Q (F0 mt pc ls (.int (iI v) :: .int (iI i) :: .ref (ad r) :: rest)) := by
  subst hm'
  obtain ⟨hK, hP, hD, hS, hA, hg, hm, hE⟩ := S
  have hat := wl_at (G := G) (ad := ad) (m := m) hg (r := r) (by omega)
  have hr1 : 1 ≤ r := (hg.1 r (by omega)).1
  rw [eC_arr hk (by decide) (by decide)] at hat
  obtain ⟨h1, h2, h3⟩ := ix_in hg hi
  refine va_iast C.1 C.2.1 hK hP hD hS _ 0 hat rfl h1 hdg (fun H1 locs1 q1 q2 q3 => ?_)
  rw [h2, upd_ms hi.1, wl_set hr1 (eC_arr hk (by decide) (by decide)) eC_ms] at q1 q2
  exact kk H1 locs1 ⟨hK, q1, q2, q3, hA, hg, hm.s hv (by rw [hk]; exact nRs (by decide) (by decide) _), hE⟩
theorem q_zast (C : CallFix p mt c cc nL s args tb own) (S : Wd G A s H0 ad g m H locs) {r i v : Int} (hk : gk g r = 21) (hi : 0 ≤ i ∧ i < gl g r) (hv : v = 0 ∨ v = 1) {m' : Mem} (hm' : m' = ms m r i v) (hdg : decode cc pc = .ok (.bastore, 1)) (kk : ∀ (H : Heap) (locs : List Loc), Wd G A s H0 ad g m' H locs → W p l e R s mt args below meth c H locs cells slots Q (F0 mt (pc + 1) ls rest)) : W p l e R s mt args below meth c H locs cells slots Q (F0 mt pc ls (.int (iI v) :: .int (iI i) :: .ref (ad r) :: rest)) := by
  subst hm'
  obtain ⟨hK, hP, hD, hS, hA, hg, hm, hE⟩ := S
  have hat := wl_at (G := G) (ad := ad) (m := m) hg (r := r) (by omega)
  have hr1 : 1 ≤ r := (hg.1 r (by omega)).1
  rw [eC_arr hk (by decide) (by decide)] at hat
  obtain ⟨h1, h2, h3⟩ := ix_in hg hi
  have hnr : vp_nar .boolean (iI v) = iI v := by rcases hv with rfl | rfl <;> decide
  refine va_zast C.1 C.2.1 hK hP hD hS _ 1 hat rfl h1 hdg (fun H1 locs1 q1 q2 q3 => ?_)
  rw [h2, hnr, upd_ms hi.1, wl_set hr1 (eC_arr hk (by decide) (by decide)) eC_ms] at q1 q2
  exact kk H1 locs1 ⟨hK, q1, q2, q3, hA, hg, hm.s (by rcases hv with rfl | rfl <;> exact ⟨by decide, by decide⟩) (by rw [hk]; exact nRs (by decide) (by decide) _), hE⟩
theorem q_cast (C : CallFix p mt c cc nL s args tb own) (S : Wd G A s H0 ad g m H locs) {r i v : Int} (hk : gk g r = 22) (hi : 0 ≤ i ∧ i < gl g r) (hv : 0 ≤ v ∧ v < 65536) {m' : Mem} (hm' : m' = ms m r i v) (hdg : decode cc pc = .ok (.castore, 1)) (kk : ∀ (H : Heap) (locs : List Loc), Wd G A s H0 ad g m' H locs → W p l e R s mt args below meth c H locs cells slots Q (F0 mt (pc + 1) ls rest)) : W p l e R s mt args below meth c H locs cells slots Q (F0 mt pc ls (.int (iI v) :: .int (iI i) :: .ref (ad r) :: rest)) := by
  subst hm'
  obtain ⟨hK, hP, hD, hS, hA, hg, hm, hE⟩ := S
  have hat := wl_at (G := G) (ad := ad) (m := m) hg (r := r) (by omega)
  have hr1 : 1 ≤ r := (hg.1 r (by omega)).1
  rw [eC_arr hk (by decide) (by decide)] at hat
  obtain ⟨h1, h2, h3⟩ := ix_in hg hi
  have hnr : vp_nar .char (iI v) = iI v := by
    have hq : iI v = nI v.toNat := by
      show Int32.ofInt v = Int32.ofNat v.toNat
      rw [← Int32.ofInt_eq_ofNat, Int.toNat_of_nonneg hv.1]
    have := (pk_charN (q := v.toNat) (by omega)).1
    rw [← hq] at this
    unfold vp_nar
    rw [this]
  refine va_cast C.1 C.2.1 hK hP hD hS _ 2 hat rfl h1 hdg (fun H1 locs1 q1 q2 q3 => ?_)
  rw [h2, hnr, upd_ms hi.1, wl_set hr1 (eC_arr hk (by decide) (by decide)) eC_ms] at q1 q2
  exact kk H1 locs1 ⟨hK, q1, q2, q3, hA, hg, hm.s ⟨by omega, by omega⟩ (by rw [hk]; exact nRs (by decide) (by decide) _), hE⟩
theorem q_aald (C : CallFix p mt c cc nL s args tb own) (S : Wd G A s H0 ad g m H locs) {r i : Int} {k : Nat} (hk : gk g r = k) (hkk : 23 ≤ k ∧ k < 27) (hi : 0 ≤ i ∧ i < gl g r) {kt : Nat} (ht : gk g (m r i) = kt) (h0 : 0 < kt) (hdg : decode cc pc = .ok (.aaload, 1)) (kk : W p l e R s mt args below meth c H locs cells slots Q (F0 mt (pc + 1) ls (.ref (ad (m r i)) :: rest))) : W p l e R s mt args below meth c H locs cells slots Q (F0 mt pc ls (.int (iI i) :: .ref (ad r) :: rest)) := by
  obtain ⟨hK, hP, hD, hS, hA, hg, hm, hE⟩ := S
  have hat := wl_at (G := G) (ad := ad) (m := m) hg (r := r) (by omega)
  rw [eC_arq hk (by omega)] at hat
  obtain ⟨h1, h2, h3⟩ := ix_in hg hi
  have hne : m r i ≠ 0 := fun h => by
    rw [h] at ht
    have := hg.1 0 (by omega)
    omega
  have hT : ∃ C0, (gT G)[k - 20]? = some (G.2 k, .object C0) := by
    rcases (show k = 23 ∨ k = 24 ∨ k = 25 ∨ k = 26 by omega) with rfl | rfl | rfl | rfl <;> exact ⟨_, rfl⟩
  obtain ⟨C0, hT⟩ := hT
  refine va_aldq C.1 C.2.1 hK hP _ (k - 20) hat hT h1 hdg ?_
  rw [h2, h3]
  simpa [orf, hne, va_rf] using kk
theorem upq_ms {r i v : Int} (hi : 0 ≤ i) (hv : v ≠ 0) : va_up (fun j : Nat => orf ad (m r (j : Int))) i.toNat (some (ad v)) = fun j : Nat => orf ad (ms m r i v r (j : Int)) := by
  funext j
  unfold va_up ms
  by_cases h : j = i.toNat
  · have : (j : Int) = i := by omega
    simp [h, this, Int.toNat_of_nonneg hi, orf, hv]
  · have : ¬ (j : Int) = i := by omega
    simp [h, this]
theorem q_aast (C : CallFix p mt c cc nL s args tb own) (S : Wd G A s H0 ad g m H locs) {r i v : Int} {k kv : Nat} (hk : gk g r = k) (hkk : 23 ≤ k ∧ k < 27) (hi : 0 ≤ i ∧ i < gl g r) (hv : gk g v = kv) (hkv : (1 ≤ kv ∧ kv < 20) ∧ (gT G)[k - 20]? = some (G.2 k, .object (((vwCl[kv - 1]?).map (fun q => q.1)).getD ""))) (hvs : (vwCl[kv - 1]?).isSome = true) (h32 : r32 v) {m' : Mem} (hm' : m' = ms m r i v) (hdg : decode cc pc = .ok (.aastore, 1)) (kk : ∀ (H : Heap) (locs : List Loc), Wd G A s H0 ad g m' H locs → W p l e R s mt args below meth c H locs cells slots Q (F0 mt (pc + 1) ls rest)) : W p l e R s mt args below meth c H locs cells slots Q (F0 mt pc ls (.ref (ad v) :: .int (iI i) :: .ref (ad r) :: rest)) := by
  subst hm'
  obtain ⟨hK, hP, hD, hS, hA, hg, hm, hE⟩ := S
  have hat := wl_at (G := G) (ad := ad) (m := m) hg (r := r) (by omega)
  have hav := wl_at (G := G) (ad := ad) (m := m) hg (r := v) (by omega)
  have hr1 : 1 ≤ r := (hg.1 r (by omega)).1
  have hv1 : 1 ≤ v := (hg.1 v (by omega)).1
  rw [eC_arq hk (by omega)] at hat
  rw [eC_obj hv (by omega)] at hav
  obtain ⟨h1, h2, h3⟩ := ix_in hg hi
  obtain ⟨q, hq⟩ := Option.isSome_iff_exists.mp hvs
  have hT := hkv.2
  rw [hq] at hT
  refine va_astq C.1 C.2.1 hK hP hD hS _ (k - 20) _ (kv - 1) hat hT hav hq h1 hdg (fun H1 locs1 q1 q2 q3 => ?_)
  rw [h2, upq_ms hi.1 (by omega), wl_set hr1 (eC_arq hk (by omega)) eC_ms] at q1 q2
  exact kk H1 locs1 ⟨hK, q1, q2, q3, hA, hg, hm.sr hg (by omega), hE⟩
theorem cpy_mcp {sr sp d dp n : Int} (h1 : 0 ≤ sp) (h2 : 0 ≤ dp) (h3 : 0 ≤ n) : va_cpy (fun j : Nat => iI (m sr (j : Int))) (fun j : Nat => iI (m d (j : Int))) sp.toNat dp.toNat n.toNat = fun j : Nat => iI (mcp m sr sp d dp n d (j : Int)) := by
  funext j
  unfold va_cpy mcp
  by_cases h : dp.toNat ≤ j ∧ j < dp.toNat + n.toNat
  · rw [if_pos h, if_pos ⟨rfl, by omega, by omega⟩]
    have h9 : ((sp.toNat + (j - dp.toNat) : Nat) : Int) = sp + ((j : Int) - dp) := by omega
    show iI (m sr ((sp.toNat + (j - dp.toNat) : Nat) : Int)) = _
    rw [h9]
  · rw [if_neg h, if_neg (by omega)]
theorem q_acopy (C : CallFix p mt c cc nL s args tb own) (S : Wd G A s H0 ad g m H locs) {idx : Nat} (hw : Cond.methodLink own idx arraycopyName ∈ tb ∧ Cond.native arraycopyName ∈ tb ∧ Cond.static arraycopyName ∈ tb ∧ Cond.initialized "java/lang/System" ∈ tb) (hsz : ls.size = nL) {sr sp d dp n : Int} (hks : gk g sr = 20) (hkd : gk g d = 20) (h1 : 0 ≤ sp) (h2 : 0 ≤ dp) (h3 : 0 ≤ n) (h4 : sp + n ≤ gl g sr) (h5 : dp + n ≤ gl g d)
    (hfr : 1 ≤ R.frames) (hlo : (rest.map fun v => v.category).sum + (nativeFrameWords "java/lang/System" "arraycopy" 5 + 11) ≤ R.locals) {m' : Mem} (hm' : m' = mcp m sr sp d dp n) (hdg : decode cc pc = .ok (.invokestatic idx, 3)) (kk : ∀ (H : Heap) (locs : List Loc), Wd G A s H0 ad g m' H locs → W p l e R s mt args below meth c H locs cells slots Q (F0 mt (pc + 3) ls rest)) : W p l e R s mt args below meth c H locs cells slots Q (F0 mt pc ls (.int (iI n) :: .int (iI dp) :: .ref (ad d) :: .int (iI sp) :: .ref (ad sr) :: rest)) := by
  subst hm'
  obtain ⟨hK, hP, hD, hS, hA, hg, hm, hE⟩ := S
  have has := wl_at (G := G) (ad := ad) (m := m) hg (r := sr) (by omega)
  have had := wl_at (G := G) (ad := ad) (m := m) hg (r := d) (by omega)
  have hr1 : 1 ≤ d := (hg.1 d (by omega)).1
  rw [eC_arr hks (by decide) (by decide)] at has
  rw [eC_arr hkd (by decide) (by decide)] at had
  have hs2 := hg.2.2 sr
  have hd2 := hg.2.2 d
  have c1 : (iI sp).toNatClampNeg = sp.toNat := iI_cl h1 (by omega)
  have c2 : (iI dp).toNatClampNeg = dp.toNat := iI_cl h2 (by omega)
  have c3 : (iI n).toNatClampNeg = n.toNat := iI_cl h3 (by omega)
  have r1 : r32 sp := ⟨by omega, by omega⟩
  have r2 : r32 dp := ⟨by omega, by omega⟩
  have r3 : r32 n := ⟨by omega, by omega⟩
  refine va_copyi C.1 C.2.1 (C.2.2.1.trans hsz.symm) C.2.2.2.1 (C.2.2.2.2 _ hw.1) (C.2.2.2.2 _ hw.2.1) (C.2.2.2.2 _ hw.2.2.1) (C.2.2.2.2 _ hw.2.2.2) hK hP hD hS _ _ 0 0 has had rfl rfl rfl (fun h => absurd ((iI_lt0 r1).mp h) (by omega)) (fun h => absurd ((iI_lt0 r2).mp h) (by omega)) (fun h => absurd ((iI_lt0 r3).mp h) (by omega)) (by rw [c1, c3]; omega) (by rw [c2, c3]; omega) (fun _ _ => rfl) hfr hlo hdg (fun H1 locs1 q1 q2 q3 => ?_)
  rw [c1, c2, c3, cpy_mcp h1 h2 h3, wl_set hr1 (eC_arr hkd (by decide) (by decide)) eC_cp] at q1 q2
  exact kk H1 locs1 ⟨hK, q1, q2, q3, hA, hg, hm.cp hkd, hE⟩
def jmin (a b : Int) : Int := if b < a then b else a
theorem r32_min {a b : Int} (ha : r32 a) (hb : r32 b) : r32 (jmin a b) := by
  unfold jmin
  split
  · exact hb
  · exact ha
theorem q_min (C : CallFix p mt c cc nL s args tb own) {idx : Nat} (hw : Cond.methodLink own idx Lib.Math.min.name ∈ tb ∧ Cond.static Lib.Math.min.name ∈ tb ∧ Cond.initialized "java/lang/Math" ∈ tb ∧ Cond.code Lib.Math.min.name Lib.Math.min.code 2 (some .int) ∈ tb) (hsz : ls.size = nL) {a b : Int} (ha : r32 a) (hb : r32 b) (hfr : 1 ≤ R.frames) (hlo : (rest.map fun v => v.category).sum + 13 ≤ R.locals) (hcs : cells ≤ R.cells ∧ slots ≤ R.slots) (hdg : decode cc pc = .ok (.invokestatic idx, 3))
    (kk : W p l e R s mt args below meth c H locs cells slots Q (F0 mt (pc + 3) ls (.int (iI (jmin a b)) :: rest))) : W p l e R s mt args below meth c H locs cells slots Q (F0 mt pc ls (.int (iI b) :: .int (iI a) :: rest)) := by
  refine va_mmin C.1 C.2.1 (C.2.2.1.trans hsz.symm) C.2.2.2.1 (C.2.2.2.2 _ hw.1) (C.2.2.2.2 _ hw.2.1) (C.2.2.2.2 _ hw.2.2.1) (C.2.2.2.2 _ hw.2.2.2) hfr hlo hcs.1 hcs.2 hdg ?_
  have he : (if iI b < iI a then iI b else iI a) = iI (jmin a b) := by
    unfold jmin
    by_cases h : b < a
    · rw [if_pos h, if_pos ((iI_lt hb ha).mpr h)]
    · rw [if_neg h, if_neg (fun q => h ((iI_lt hb ha).mp q))]
  rw [he]
  exact kk
end Rows1
