theorem li_RX0 : Cond.instantiable RX0 9 ∈ lw_tbl := List.mem_of_getElem? (i := 115) (by decide +kernel)
theorem li_RX1 : Cond.instantiable RX1 10 ∈ lw_tbl := List.mem_of_getElem? (i := 196) (by decide +kernel)
theorem li_RX2 : Cond.instantiable RX2 4 ∈ lw_tbl := List.mem_of_getElem? (i := 144) (by decide +kernel)
theorem li_RX3 : Cond.instantiable RX3 9 ∈ lw_tbl := List.mem_of_getElem? (i := 261) (by decide +kernel)
theorem li_RX4 : Cond.instantiable RX4 2 ∈ lw_tbl := List.mem_of_getElem? (i := 244) (by decide +kernel)
theorem li_RX5 : Cond.instantiable RX5 7 ∈ lw_tbl := List.mem_of_getElem? (i := 361) (by decide +kernel)
theorem li_RX6 : Cond.instantiable RX6 3 ∈ lw_tbl := List.mem_of_getElem? (i := 121) (by decide +kernel)
theorem li_RX7 : Cond.instantiable RX7 6 ∈ lw_tbl := List.mem_of_getElem? (i := 354) (by decide +kernel)
theorem li_RX8 : Cond.instantiable RX8 4 ∈ lw_tbl := List.mem_of_getElem? (i := 93) (by decide +kernel)
theorem li_RX9 : Cond.instantiable RX9 9 ∈ lw_tbl := List.mem_of_getElem? (i := 268) (by decide +kernel)
theorem li_RX10 : Cond.instantiable RX10 8 ∈ lw_tbl := List.mem_of_getElem? (i := 85) (by decide +kernel)
theorem li_RX11 : Cond.instantiable RX11 39 ∈ lw_tbl := List.mem_of_getElem? (i := 855) (by decide +kernel)
theorem la_int : Cond.arrayClass .int ∈ lw_tbl := List.mem_of_getElem? (i := 113) (by decide +kernel)
theorem la_boolean : Cond.arrayClass .boolean ∈ lw_tbl := List.mem_of_getElem? (i := 141) (by decide +kernel)
theorem la_char : Cond.arrayClass .char ∈ lw_tbl := List.mem_of_getElem? (i := 112) (by decide +kernel)
theorem lo_Floor : Cond.arrayOver (.object RX1) ∈ lw_tbl := List.mem_of_getElem? (i := 250) (by decide +kernel)
theorem lo_Way : Cond.arrayOver (.object RX9) ∈ lw_tbl := List.mem_of_getElem? (i := 352) (by decide +kernel)
theorem lo_Path : Cond.arrayOver (.object RX5) ∈ lw_tbl := List.mem_of_getElem? (i := 360) (by decide +kernel)
theorem lo_Layings : Cond.arrayOver (.object RX2) ∈ lw_tbl := List.mem_of_getElem? (i := 143) (by decide +kernel)
theorem lt_str : Cond.stringRef RX10 61 strT ∈ lw_tbl := List.mem_of_getElem? (i := 427) (by decide +kernel)
theorem ly_cs : Cond.laysStatic "java/lang/String" "COMPACT_STRINGS" "Z" ∈ lw_tbl := List.mem_of_getElem? (i := 437) (by decide +kernel)
theorem ly_fm : Cond.laysStatic "jdk/internal/util/Preconditions" "SIOOBE_FORMATTER" "Ljava/util/function/BiFunction;" ∈ lw_tbl := List.mem_of_getElem? (i := 453) (by decide +kernel)
theorem ln_str : Cond.initialized "java/lang/String" ∈ lw_tbl := List.mem_of_getElem? (i := 75) (by decide +kernel)
theorem ln_pre : Cond.initialized "jdk/internal/util/Preconditions" ∈ lw_tbl := List.mem_of_getElem? (i := 77) (by decide +kernel)
theorem lm_0 : Cond.methodLinkNest "StoneFloors" 11 ⟨"StoneFloors$Reader", "<init>", "()V"⟩ "StoneFloors" ∈ lw_tbl := List.mem_of_getElem? (i := 94) (by decide +kernel)
theorem lm_1 : Cond.methodLinkNest "StoneFloors$Finder" 13 ⟨"StoneFloors$Pieces", "<init>", "()V"⟩ "StoneFloors" ∈ lw_tbl := List.mem_of_getElem? (i := 122) (by decide +kernel)
theorem lm_2 : Cond.methodLinkNest "StoneFloors$Finder" 34 ⟨"StoneFloors$Layings", "<init>", "()V"⟩ "StoneFloors" ∈ lw_tbl := List.mem_of_getElem? (i := 145) (by decide +kernel)
theorem lm_3 : Cond.methodLinkNest "StoneFloors" 25 ⟨"StoneFloors$Floor", "<init>", "()V"⟩ "StoneFloors" ∈ lw_tbl := List.mem_of_getElem? (i := 197) (by decide +kernel)
theorem lm_4 : Cond.methodLinkNest "StoneFloors$Past" 17 ⟨"StoneFloors$Floor", "<init>", "()V"⟩ "StoneFloors" ∈ lw_tbl := List.mem_of_getElem? (i := 251) (by decide +kernel)
theorem lm_5 : Cond.methodLinkNest "StoneFloors$Orders" 29 ⟨"StoneFloors$Way", "<init>", "()V"⟩ "StoneFloors" ∈ lw_tbl := List.mem_of_getElem? (i := 269) (by decide +kernel)
theorem lm_6 : Cond.methodLinkNest "StoneFloors$Orders" 34 ⟨"StoneFloors$Floor", "<init>", "()V"⟩ "StoneFloors" ∈ lw_tbl := List.mem_of_getElem? (i := 313) (by decide +kernel)
theorem lm_7 : Cond.methodLinkNest "StoneFloors$Plan" 27 ⟨"StoneFloors$Path", "<init>", "()V"⟩ "StoneFloors" ∈ lw_tbl := List.mem_of_getElem? (i := 362) (by decide +kernel)
theorem lm_8 : Cond.methodLinkNest "StoneFloors" 60 ⟨"StoneFloors$Way", "<init>", "()V"⟩ "StoneFloors" ∈ lw_tbl := List.mem_of_getElem? (i := 426) (by decide +kernel)
theorem lm_9 : Cond.methodLinkNest "StoneFloors$Reader" 67 ⟨"StoneFloors", "isColour", "(I)Z"⟩ "StoneFloors" ∈ lw_tbl := List.mem_of_getElem? (i := 526) (by decide +kernel)
theorem lm_10 : Cond.methodLinkNest "StoneFloors$Path" 35 ⟨"StoneFloors", "isOnGround", "(II)Z"⟩ "StoneFloors" ∈ lw_tbl := List.mem_of_getElem? (i := 545) (by decide +kernel)
def gZ : Shp := (0, 0, (fun _ => 0), (fun _ => 0))
def mZ : Mem := fun _ _ => 0
theorem rl0 : (0 : Int) ≤ 0 ∧ (0 : Int) < 2147483648 := by decide
theorem gZ_ok : gOk gZ := ⟨fun r h => absurd rfl h, Nat.le_of_ble_eq_true rfl, fun _ => rl0⟩
theorem mZ_ok : mOk gZ mZ := ⟨fun _ _ => rl 0 rfl, fun _ _ _ => ⟨Int.le_refl 0, Int.le_refl 0⟩⟩
theorem arr_p {s : State} {args : Array Value} {ty : FieldType} (h : (Cond.arrayClass ty).before args s = true) : ∃ cA : ClassId, ArrOfT s cA ty ∧ s.vm.findClass ("[" ++ ty.toString) = some cA := by
  obtain ⟨c, k, comp, h1, h2, h3⟩ := Cond.arrayClass_spec (args := args) (first := s) (o := none) (s := s) (idx := []) h
  exact ⟨c, fun n z => ⟨fun k h => (by cases h), k, h2, comp, h3⟩, h1⟩
theorem arr_q {s : State} {C : String} (h : va_AO C s) : ∃ cA : ClassId, ArrOfT s cA (.object C) ∧ va_RA s cA (.object C) := by
  obtain ⟨comp, c, k, h1, h2, h3, h4, h5⟩ := Cond.arrayOver_spec h
  exact ⟨c, fun n z => ⟨fun k h => (by cases h), k, h3, comp, h4⟩, k, comp, h3, h4, h1, h5⟩
def strC : Cond := Jvm.Cond.and given_1 narrow_1
theorem str_sq {s : State} {b : Nat} (hts : ∀ w ∈ lw_tbl, w.before #[Value.ref b] s = true) (hgv : (Jvm.Cond.and given_1 narrow_1).before #[Value.ref b] s = true) : ∃ k v : Nat, SQ (fun q : Nat => s.heap.size ≤ q) k v s s.heap := by
  have hs := flat_of_before _ hgv
  have hA : ∀ a : Nat, a < s.heap.size → ¬ (fun q : Nat => s.heap.size ≤ q) a := fun a h => Nat.not_le.mpr h
  obtain ⟨adK, adV, h1, h2⟩ := vk_Sof (args := #[Value.ref b]) (s := s) (N := 1) (tm := fun _ => .string "StoneFloors" 61) (len := [59]) (byt := [strI.map iI]) (A := fun q : Nat => s.heap.size ≤ q)
    (fun i hi => by rcases (show i = 0 by omega) with rfl; decide)
    (fun i hi => hs _ (by decide +kernel))
    (fun i hi => hs _ (by decide +kernel))
    (fun i hi => hs _ (by decide +kernel))
    (fun i hi => by rcases (show i = 0 by omega) with rfl; exact hs _ (by decide +kernel))
    (fun i hi j hj => by
      rcases (show i = 0 by omega) with rfl
      have hall : ∀ j, j < 59 → (Cond.eq (.elem (.field (.string "StoneFloors" 61) "java/lang/String" "value" "[B") (.int (Int32.ofNat j))) (.int ((strI.map iI).getD j 0))) ∈ flatC (Jvm.Cond.and given_1 narrow_1) := by decide +kernel
      exact hs _ (hall j hj))
    (fun i j hi hj hij => absurd (show i = j by omega) hij) hA
  refine ⟨adK 0, adV 0, ⟨fun i hi => ?_, fun i j hi hj _ => by omega⟩, ?_, ?_, ?_⟩
  · rcases (show i = 0 by omega) with rfl
    exact h1.1 0 hi
  · exact vk_R.of (hts _ lt_str) (h2 0 (by decide))
  · exact va_Zof (hts _ ly_cs) (hts _ ln_str) (va_eqi (hs _ (by decide +kernel))) hA
  · exact va_Zqof (hts _ ly_fm) (hts _ ln_pre) (hs _ (by decide +kernel)) hA
theorem ex_s {s : State} {args : Array Value} (hts : ∀ w ∈ lw_tbl, w.before args s = true) : Ex s := by
  refine ⟨fun q hq => ?_, fun C hC => ?_⟩
  · have h : ∀ w ∈ lw_tbl, w.onTables = true → va_Nw w s := fun w hw ho => va_Nw.of ho (hts w hw)
    simp only [nestQ, List.mem_cons, List.not_mem_nil, or_false] at hq
    rcases hq with rfl | rfl | rfl | rfl | rfl | rfl | rfl | rfl | rfl | rfl | rfl
    · exact h _ lm_0 rfl
    · exact h _ lm_1 rfl
    · exact h _ lm_2 rfl
    · exact h _ lm_3 rfl
    · exact h _ lm_4 rfl
    · exact h _ lm_5 rfl
    · exact h _ lm_6 rfl
    · exact h _ lm_7 rfl
    · exact h _ lm_8 rfl
    · exact h _ lm_9 rfl
    · exact h _ lm_10 rfl
  · simp only [List.mem_cons, List.not_mem_nil, or_false] at hC
    rcases hC with rfl | rfl | rfl | rfl
    · exact va_AO.of (hts _ lo_Floor)
    · exact va_AO.of (hts _ lo_Way)
    · exact va_AO.of (hts _ lo_Path)
    · exact va_AO.of (hts _ lo_Layings)
theorem known_1 {s : State} {args : Array Value} (hts : ∀ w ∈ lw_tbl, w.before args s = true) (htb : ∀ w ∈ tb, w.before args s = true) : ∀ (k : Nat) (q : vw_C), vwCl[k]? = some q → ∃ (cC : ClassId) (iS : Nat → Nat), u_Kn s q.1 q.2.1 q.2.2 cC iS := by
  intro k q hq
  match k, hq with
  | 0, hq => cases hq; exact u_known (C := RX0) (T := TX0) (N := 9) (n := 9) htb iRX0 (hts _ li_RX0)
  | 1, hq => cases hq; exact u_known (C := RX1) (T := TX1) (N := 10) (n := 10) htb iRX1 (hts _ li_RX1)
  | 2, hq => cases hq; exact u_known (C := RX2) (T := TX2) (N := 4) (n := 4) htb iRX2 (hts _ li_RX2)
  | 3, hq => cases hq; exact u_known (C := RX3) (T := TX3) (N := 9) (n := 9) htb iRX3 (hts _ li_RX3)
  | 4, hq => cases hq; exact u_known (C := RX4) (T := TX4) (N := 2) (n := 2) htb iRX4 (hts _ li_RX4)
  | 5, hq => cases hq; exact u_known (C := RX5) (T := TX5) (N := 7) (n := 7) htb iRX5 (hts _ li_RX5)
  | 6, hq => cases hq; exact u_known (C := RX6) (T := TX6) (N := 3) (n := 3) htb iRX6 (hts _ li_RX6)
  | 7, hq => cases hq; exact u_known (C := RX7) (T := TX7) (N := 6) (n := 6) htb iRX7 (hts _ li_RX7)
  | 8, hq => cases hq; exact u_known (C := RX8) (T := TX8) (N := 4) (n := 4) htb iRX8 (hts _ li_RX8)
  | 9, hq => cases hq; exact u_known (C := RX9) (T := TX9) (N := 9) (n := 9) htb iRX9 (hts _ li_RX9)
  | 10, hq => cases hq; exact u_known (C := RX10) (T := TX10) (N := 8) (n := 8) htb iRX10 (hts _ li_RX10)
  | 11, hq => cases hq; exact u_known (C := RX11) (T := TX11) (N := 39) (n := 39) htb iRX11 (hts _ li_RX11)
  | k + 12, hq => simp [vwCl] at hq
theorem known_s {s : State} {args : Array Value} (hts : ∀ w ∈ lw_tbl, w.before args s = true) : ∃ (dC : Nat → ClassId) (dI : Nat → Nat → Nat), ∀ (k : Nat) (q : vw_C), vwCl[k]? = some q → u_Kn s q.1 q.2.1 q.2.2 (dC k) (dI k) := by
  have htb : ∀ w ∈ tb, w.before args s = true := fun w h => hts w (List.mem_filter.mp h).1
  have h : ∀ k : Nat, ∃ z : ClassId × (Nat → Nat), ∀ q : vw_C, vwCl[k]? = some q → u_Kn s q.1 q.2.1 q.2.2 z.1 z.2 := by
    intro k
    cases hk : vwCl[k]? with
    | none => exact ⟨(0, fun _ => 0), fun q hq => by cases hq⟩
    | some q0 =>
      have h2 : ∃ (cC : ClassId) (iS : Nat → Nat), u_Kn s q0.1 q0.2.1 q0.2.2 cC iS := by
        revert hk
        exact known_1 hts htb k q0
      obtain ⟨cC, iS, h3⟩ := h2
      exact ⟨(cC, iS), fun q hq => by cases hq; exact h3⟩
  obtain ⟨z, hz⟩ := Classical.axiomOfChoice h
  exact ⟨fun k => (z k).1, fun k => (z k).2, hz⟩
theorem glob_s {s : State} {args : Array Value} (hts : ∀ w ∈ lw_tbl, w.before args s = true) : ∃ G : Gl, va_K G.1 vwCl (gT G) s := by
  obtain ⟨dC, dI, hC⟩ := known_s hts
  obtain ⟨a0, b0, c0⟩ := arr_p (hts _ la_int)
  obtain ⟨a1, b1, c1⟩ := arr_p (hts _ la_boolean)
  obtain ⟨a2, b2, c2⟩ := arr_p (hts _ la_char)
  obtain ⟨a3, b3, c3⟩ := arr_q (va_AO.of (hts _ lo_Floor))
  obtain ⟨a4, b4, c4⟩ := arr_q (va_AO.of (hts _ lo_Way))
  obtain ⟨a5, b5, c5⟩ := arr_q (va_AO.of (hts _ lo_Path))
  obtain ⟨a6, b6, c6⟩ := arr_q (va_AO.of (hts _ lo_Layings))
  refine ⟨((dC, dI), fun k => if k = 20 then a0 else if k = 21 then a1 else if k = 22 then a2 else if k = 23 then a3 else if k = 24 then a4 else if k = 25 then a5 else a6), hC, ?_⟩
  intro k q hq
  match k, hq with
  | 0, hq => cases hq; exact ⟨b0, c0⟩
  | 1, hq => cases hq; exact ⟨b1, c1⟩
  | 2, hq => cases hq; exact ⟨b2, c2⟩
  | 3, hq => cases hq; exact ⟨b3, c3⟩
  | 4, hq => cases hq; exact ⟨b4, c4⟩
  | 5, hq => cases hq; exact ⟨b5, c5⟩
  | 6, hq => cases hq; exact ⟨b6, c6⟩
  | k + 7, hq => simp [gT] at hq
/-- THE PURE FACT that is owed by the second layer -/
def LawPure : Prop := ∀ (L : Nat) (xs : Nat → Int32), L ≤ 2560 → ∃ (g' : Shp) (m' : Mem), fL_law L xs gZ mZ = some (1, g', m') ∧ gn g' ≤ 600000 ∧ gs g' ≤ 7302250
set_option maxHeartbeats 4000000 in
set_option maxRecDepth 100000 in
theorem whole_of (hlaw : LawPure) {p : Program} {e : Env} {s : State} {m : MethodId} {below : List Frame} {meth : Method} {c : Code} (l : Launch) {b L : Nat} {xs : Nat → Int32} (hL : L ≤ 2560) (C0 : lw_At p s m meth c b L xs) : W p l e room_1 s m #[Value.ref b] below meth c s.heap [] 0 0 (lw_Z below #[Value.ref b] s) (entryFrame m ([Value.ref b] : List Value).toArray 4) := by
  obtain ⟨hx, hb, hr, hml, hown, hts, hX, hbl, hlocks, hgv⟩ := C0
  obtain ⟨G, hK⟩ := glob_s hts
  obtain ⟨k, v, hQ⟩ := str_sq hts hgv
  obtain ⟨g', m', hF, hg1, hg2⟩ := hlaw L xs hL
  have hE := ex_s hts
  have htb : ∀ w ∈ tb, w.before #[Value.ref b] s = true := fun w h => hts w (List.mem_filter.mp h).1
  have C : CallFix p m c cL_law 4 s #[Value.ref b] tb RL := ⟨hx, hb, hml, hown, htb⟩
  have S : Wd G (fun q : Nat => s.heap.size ≤ q) s s.heap (fun _ => 0) gZ mZ s.heap [] := ⟨hK, fun k q h => by simp [wl, gZ, gn] at h, ⟨fun i j p q h => by simp [wl, gZ, gn] at h, fun k q h => by simp [wl, gZ, gn] at h⟩, va_S.rf, fun _ h => h, gZ_ok, mZ_ok, hE⟩
  have hl := lv_entry ([.ref b]) (n := 4) (Nat.le_of_ble_eq_true rfl)
  rw [lg_entry_eq]
  refine wL_law_0 (ad := fun _ => 0) (ad0 := fun _ => 0) (g0 := gZ) (n0 := 0) (t0 := 0) (cells := 0) (slots := 0) (mc := 600000) (msl := 7302250) rfl hQ ⟨hX, hbl, Nat.not_le.mpr hbl, hL⟩ C S trivial hl ⟨fun _ _ => rfl, gX.rf _⟩ ⟨rfl, rfl⟩ hF ⟨by omega, by omega⟩ (fun ad H locs pc ls cells slots hax hcs S hdg hr1 hnr => ?_)
  refine va_forget (fun q hq => S.2.2.2.1.2.2 q hq) ?_
  refine W.widen (k := 600000) (n := 7302250) (by omega) (by omega) ?_
  exact lw_ret hx hb hr hlocks hdg
