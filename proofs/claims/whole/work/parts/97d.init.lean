/-! ===== the store behind both constructors, by evaluation ===== -/
def allN (p : Nat → Bool) : Nat → Bool
  | 0 => true
  | n + 1 => p n && allN p n
theorem allN_ok {p : Nat → Bool} : ∀ n : Nat, allN p n = true → ∀ k, k < n → p k = true
  | 0, _, k, hk => absurd hk (Nat.not_lt_zero k)
  | n + 1, h, k, hk => by
    have h2 : (p n && allN p n) = true := h
    rw [Bool.and_eq_true] at h2
    by_cases q : k = n
    · rw [q]; exact h2.1
    · exact allN_ok n h2.2 k (by omega)
theorem allN_mk {p : Nat → Bool} : ∀ n : Nat, (∀ k, k < n → p k = true) → allN p n = true
  | 0, _ => rfl
  | n + 1, h => by
    show (p n && allN p n) = true
    rw [Bool.and_eq_true]
    exact ⟨h n (Nat.lt_succ_self n), allN_mk n (fun k hk => h k (by omega))⟩
def allI (p : Int → Bool) (n : Nat) : Bool := allN (fun k => p (k : Int)) n
theorem allI_ok {p : Int → Bool} {n : Nat} (h : allI p n = true) {i : Int} (h0 : 0 ≤ i) (h1 : i < (n : Int)) : p i = true := by
  obtain ⟨k, rfl⟩ := Int.eq_ofNat_of_zero_le h0
  exact allN_ok (p := fun k => p (k : Int)) n h k (by omega)
def okv (a : Option (Int × Shp × Mem)) (f : Shp → Mem → Bool) : Bool := match a with
  | some q => f q.2.1 q.2.2
  | none => false
theorem okv_ok {a : Option (Int × Shp × Mem)} {f : Shp → Mem → Bool} (h : okv a f = true) : ∃ (r : Int) (g : Shp) (m : Mem), a = some (r, g, m) ∧ f g m = true := by
  cases a with
  | none => exact absurd (show false = true from h) (by decide)
  | some q => exact ⟨q.1, q.2.1, q.2.2, rfl, h⟩
def cSh (g : Shp) (m : Mem) : Bool := SHT.all (fun q => decide (gk g q.1 = q.2.1) && decide (gl g q.1 = q.2.2)) && (SHR.all (fun q => decide (m q.1 q.2.2.1 = q.2.2.2)) && (decide (gk g (m 1 6) = 8) && (decide (gk g (m 1 7) = 8) && decide (gk g (m 5 2) = 20))))
def e3 (g : Shp) (m : Mem) (r j o : Int) (k : Nat) (l : Int) : Bool := decide (m r j = r + o) && (decide (gk g (r + o) = k) && decide (gl g (r + o) = l))
theorem e3_ok {g : Shp} {m : Mem} {r j o : Int} {k : Nat} {l : Int} (h : e3 g m r j o k l = true) : m r j = r + o ∧ gk g (r + o) = k ∧ gl g (r + o) = l := by
  unfold e3 at h
  rw [Bool.and_eq_true, Bool.and_eq_true, decide_eq_true_eq, decide_eq_true_eq, decide_eq_true_eq] at h
  exact h
def im (k a : Nat) (b : Bool) : Bool := if k = a then b else true
theorem im_ok {k a : Nat} {b : Bool} (h : im k a b = true) (hk : k = a) : b = true := by
  unfold im at h
  rw [if_pos hk] at h
  exact h
def cU (g : Shp) (m : Mem) (r : Int) : Bool :=
  im (gk g r) 2 (e3 g m r 0 1 20 400 && (e3 g m r 1 2 20 9 && (e3 g m r 2 3 20 3 && (e3 g m r 3 4 20 3 && (e3 g m r 4 5 20 3 && (e3 g m r 5 6 20 9 && e3 g m r 6 7 20 3))))))
  && (im (gk g r) 6 (e3 g m r 0 1 20 60 && e3 g m r 1 2 20 5)
  && (im (gk g r) 8 (e3 g m r 0 1 20 3 && (e3 g m r 1 2 20 9 && (e3 g m r 2 3 25 3 && e3 g m r 3 4 20 400)))
  && (im (gk g r) 10 (e3 g m r 0 1 20 18 && (e3 g m r 1 2 20 3 && e3 g m r 2 3 20 3))
  && (im (gk g r) 3 (e3 g m r 0 1 20 48 && e3 g m r 1 2 20 16)
  && (im (gk g r) 24 (decide (gl g r = 9) && allI (fun i => decide (m r i = r + (29 + 4 * i)) && decide (gk g (r + (29 + 4 * i)) = 10)) 9)
  && (im (gk g r) 25 (decide (gl g r = 3) && allI (fun i => decide (m r i = r + (2 + 3 * i)) && decide (gk g (r + (2 + 3 * i)) = 6)) 3)
  && (im (gk g r) 26 (decide (gl g r = 24) && allI (fun i => decide (m r i = r + (4 + 3 * i)) && decide (gk g (r + (4 + 3 * i)) = 3)) 24)
  && im (gk g r) 23 (allI (fun i => decide (gk g (m r i) = 2)) (gl g r).toNat))))))))
def lk (l : List Int) (i : Int) : Int := l.getD i.toNat 0
def d0C : List Int := [42, 43, 44, 45, 46, 47, 48, 49, 50, 70, 90, 110, 130, 150, 170, 169, 168, 167, 166, 0, 0, 0, 0, 0, 0, 0, 0, 0, 0, 0, 0, 0, 0, 0, 0, 0, 0, 0, 0, 0, 0, 0, 0, 0, 0, 0, 0, 0, 0, 0, 0, 0, 0, 0, 0, 0, 0, 0, 0, 0, 6, 26, 46, 66, 86, 106, 126, 146, 0, 0, 0, 0, 0, 0, 0, 0, 0, 0, 0, 0, 0, 0, 0, 0, 0, 0, 0, 0, 0, 0, 0, 0, 0, 0, 0, 0, 0, 0, 0, 0, 0, 0, 0, 0, 0, 0, 0, 0, 0, 0, 0, 0, 0, 0, 0, 0, 0, 0, 0, 0, 100, 101, 102, 103, 104, 105, 106, 107, 108, 109, 110, 111, 91, 71, 51, 0, 0, 0, 0, 0, 0, 0, 0, 0, 0, 0, 0, 0, 0, 0, 0, 0, 0, 0, 0, 0, 0, 0, 0, 0, 0, 0, 0, 0, 0, 0, 0, 0, 0, 0, 0, 0, 0, 0, 0, 0, 0, 0, 0, 0]
def d0 : Dt := (3, lk [2, 3, 5], lk [3, 1, 2], lk [9, 6, 4, 0, 0, 8, 0, 0, 0, 0, 12, 3, 0, 0, 0], lk [19, 8, 15], lk d0C)
def b0 : Int → Int := lk [4, 4, 2, 3, 2, 1, 6, 6, 6]
def cl (i : Int) : List Int := if i = 0 then [42, 43, 44, 45, 46, 47, 48, 49, 50, 70, 90, 110, 130, 150, 170, 169, 168, 167, 166] else if i = 1 then [6, 26, 46, 66, 86, 106, 126, 146] else [100, 101, 102, 103, 104, 105, 106, 107, 108, 109, 110, 111, 91, 71, 51]
def hasN (i c : Int) : Bool := (cl i).any (fun x => decide (x = c))
def ov0 (c : Int) : Nat := (if hasN 0 c = true then 1 else 0) + (if hasN 1 c = true then 2 else 0) + (if hasN 2 c = true then 4 else 0)
def cD (m : Mem) : Bool := decide (m 241 20 = 3) && (allI (fun k => decide (m 252 k = lk [2, 3, 5] k)) 3 && (allI (fun k => decide (m 253 k = lk [3, 1, 2] k)) 3 && (allI (fun k => decide (m 254 k = lk [9, 6, 4, 0, 0, 8, 0, 0, 0, 0, 12, 3, 0, 0, 0] k)) 15
  && (allI (fun k => decide (m 255 k = lk [19, 8, 15] k)) 3 && allI (fun k => decide (m 256 k = lk d0C k)) 180))))
def cP (m : Mem) : Bool := allI (fun k => decide (m 192 k = dz d0 k)) 3 && (decide (m 191 5 = 3)
  && (allI (fun i => decide (m (191 + 5 + 3 * i) 2 = dn d0 i) && (decide (m (191 + 5 + 3 * i) 3 = dr d0 i) && (allI (fun k => decide (m (191 + 5 + 3 * i + 1) k = dc d0 i k)) (dn d0 i).toNat && allI (fun r => decide (m (191 + 5 + 3 * i + 2) r = rsum (dg d0 i) (r.toNat + 1) - 1)) (dr d0 i).toNat))) 3))
def cO (m : Mem) (o : Int) (n : Nat) : Bool := allI (fun c => decide (m 195 (c + o) = ((ov0 (c + o) : Nat) : Int))) n
def cR1 (m : Mem) (o : Int) (n : Nat) : Bool := allI (fun k => decide (m 242 (k + o) = layR 0 b0 (k + o))) n
def cR2 (m : Mem) (o : Int) (n : Nat) : Bool := allI (fun k => decide (rowC m 85 (k + o) = layR 0 b0 (k + o))) n
def cM (m : Mem) : Bool := decide (m 241 5 = 0) && (decide (m 2 3 = 0) && (decide (m 1 6 = 191) && (decide (m 1 7 = 177) && (decide (m 5 2 = 10) && (decide (m 93 1 = 0) && (decide (m 241 3 = 0) && (decide (m 143 8 = 0)
  && (allI (fun i => decide (m 94 i = 95 + 8 * i)) 6 && (allI (fun w => decide (m (205 + 4 * w) 8 = 0)) 9 && (allI (fun k => decide (m 147 k = 152 + 8 * k)) 3 && allI (fun i => decide (m (13 + 3 * i) 3 = 0)) 24))))))))))
def cN (g : Shp) (m : Mem) : Bool := decide (gn g = 267) && (decide (gs g ≤ 100000) && (cR1 m 0 433 && cM m))
def cDP (g : Shp) (m : Mem) : Bool := cD m && cP m
def cO1 (g : Shp) (m : Mem) : Bool := cO m 0 200
def cO2 (g : Shp) (m : Mem) : Bool := cO m 200 200
def cQ1 (g : Shp) (m : Mem) : Bool := cR2 m 0 220
def cQ2 (g : Shp) (m : Mem) : Bool := cR2 m 220 213
def cU1 (g : Shp) (m : Mem) : Bool := allI (fun k => cU g m (k + 1)) 94
def cU2 (g : Shp) (m : Mem) : Bool := allI (fun k => cU g m (k + 95)) 173
def stA : Option (Int × Shp × Mem) := fX10_init 1 (gA gZ 11 0 8) (mA gZ mZ)
def stB (g : Shp) (m : Mem) : Option (Int × Shp × Mem) := fX11_init 241 (gA g 12 0 39) (mA g m)
def stF (f : Shp → Mem → Bool) (g : Shp) (m : Mem) : Bool := decide (gn g = 240) && okv (stB g m) f
