/-! ===== what a piece can take: lists, pure ===== -/
abbrev Q4 : Type := Nat × Nat × Nat × Nat
def frc {α : Type} (n : Nat) (k : Nat → α) : α := match n with
  | 0 => k 0
  | m + 1 => k (Nat.succ m)
def q4le (a b c d a' b' c' d' : Nat) : Bool := cond (Nat.ble d d') (cond (Nat.ble a a') (cond (Nat.ble b b') (Nat.ble c c') false) false) false
def any4 (a b c d : Nat) : List Q4 → Bool
  | [] => false
  | (a', b', c', d') :: ys => cond (q4le a' b' c' d' a b c d) true (any4 a b c d ys)
def ladd (n : Nat) (L : List Q4) (a b c d : Nat) : Nat × List Q4 :=
  frc a fun a => frc b fun b => frc c fun c =>
  cond (cond (Nat.ble 7 a) true (cond (Nat.ble 7 b) true (cond (Nat.ble 7 c) true (cond (Nat.ble 16 n) true (any4 a b c d L))))) (n, L) (Nat.succ n, (a, b, c, d) :: L)
def lcB (s0 s1 s2 a b c cut need avail cost cA : Nat) : Nat → Nat × List Q4 → Nat × List Q4
  | 0, st => st
  | n + 1, st => match lcB s0 s1 s2 a b c cut need avail cost cA n st with
    | (k, L) => cond (Nat.ble avail (Nat.add need (Nat.add (Nat.add (Nat.mul cA (Nat.sub s0 1)) (Nat.mul n (Nat.sub s1 1))) (Nat.mul (Nat.sub (Nat.sub cut cA) n) (Nat.sub s2 1))))) (ladd k L (Nat.add a cA) (Nat.add b n) (Nat.add c (Nat.sub (Nat.sub cut cA) n)) cost) (k, L)
def lcA (s0 s1 s2 a b c cut need avail cost : Nat) : Nat → Nat × List Q4 → Nat × List Q4
  | 0, st => st
  | n + 1, st => match lcA s0 s1 s2 a b c cut need avail cost n st with
    | (k, L) => lcB s0 s1 s2 a b c cut need avail cost n (Nat.succ (Nat.sub cut n)) (k, L)
def lC (s0 s1 s2 J av a b cut cost base : Nat) : Nat → Nat × List Q4 → Nat × List Q4
  | 0, st => st
  | n + 1, st => match lC s0 s1 s2 J av a b cut cost base n st with
    | (k, L) => frc (Nat.add base (Nat.mul n (Nat.add s2 J))) fun need => cond (Nat.ble (Nat.add need cut) av) (lcA s0 s1 s2 a b n cut need av cost (Nat.succ (cond (Nat.ble 2 s0) cut 0)) (k, L)) (k, L)
def lB (s0 s1 s2 J av a cut cost : Nat) : Nat → Nat × List Q4 → Nat × List Q4
  | 0, st => st
  | n + 1, st => match lB s0 s1 s2 J av a cut cost n st with
    | (k, L) => frc (Nat.add (Nat.mul a (Nat.add s0 J)) (Nat.add (Nat.mul n (Nat.add s1 J)) (Nat.mul cut J))) fun base => cond (Nat.ble (Nat.add base cut) av) (lC s0 s1 s2 J av a n cut cost base 7 (k, L)) (k, L)
def lA (s0 s1 s2 J av cut bent : Nat) : Nat → Nat × List Q4 → Nat × List Q4
  | 0, st => st
  | n + 1, st => match lA s0 s1 s2 J av cut bent n st with
    | (k, L) => lB s0 s1 s2 J av n cut (cond (Nat.beq bent 1) (cond (Nat.beq n 0) (Nat.succ cut) cut) cut) 7 (k, L)
def lCut (s0 s1 s2 J av bent : Nat) : Nat → Nat × List Q4
  | 0 => (0, [])
  | n + 1 => match lCut s0 s1 s2 J av bent n with
    | (k, L) => lA s0 s1 s2 J av n bent 7 (k, L)
def lay4 (s0 s1 s2 J k bent : Nat) : Nat × List Q4 := frc (Nat.add k J) fun av => lCut s0 s1 s2 J av bent 4
/-! ===== the check: a first stone and a list behind it against the list ===== -/
def drp : Nat → List (List Q4) → List Q4
  | _, [] => []
  | 0, x :: _ => x
  | n + 1, _ :: t => drp n t
def iAll (e0 e1 e2 cu : Nat) (L : List Q4) : List Q4 → Bool
  | [] => true
  | (a, b, c, d) :: X => frc (Nat.add a e0) fun a => frc (Nat.add b e1) fun b => frc (Nat.add c e2) fun c => frc (Nat.add d cu) fun d =>
    cond (cond (Nat.ble 7 a) true (cond (Nat.ble 7 b) true (cond (Nat.ble 7 c) true (any4 a b c d L)))) (iAll e0 e1 e2 cu L X) false
def iAny (e0 e1 e2 cu a' b' c' d' : Nat) : List Q4 → Bool
  | [] => false
  | (a, b, c, d) :: X => cond (q4le (Nat.add a e0) (Nat.add b e1) (Nat.add c e2) (Nat.add d cu) a' b' c' d') true (iAny e0 e1 e2 cu a' b' c' d' X)
/-- is the stone cut, and is it cut aslant -/
def cutN (z len : Nat) : Nat := cond (Nat.ble z len) 0 1
def aslN (bent s0 so len : Nat) : Nat := cond (Nat.beq bent 1) (cond (Nat.beq so 0) (cond (Nat.beq len s0) 0 1) 1) 0
/-- the stones behind which the list of so many cells lies: all of the piece, or some of it -/
def candL (J k len : Nat) (t : List (List Q4)) : List Q4 := cond (Nat.beq len k) [(0, 0, 0, 0)] (cond (Nat.ble k (Nat.add len J)) [] (drp (Nat.pred (Nat.add len J)) t))
def cuL (k s0 z bent so len : Nat) : Nat := Nat.add (cutN z len) (cond (Nat.beq len k) (aslN bent s0 so len) 0)
def ok1 (s0 J bent k z so e0 e1 e2 len : Nat) (L : List Q4) (t : List (List Q4)) : Bool := cond (Nat.ble len z) (frc (cuL k s0 z bent so len) fun cu => iAll e0 e1 e2 cu L (candL J k len t)) true
def ok3 (s0 s1 s2 J bent k : Nat) (L : List Q4) (t : List (List Q4)) : Nat → Bool
  | 0 => true
  | n + 1 => cond (Nat.ble (Nat.succ n) k) (frc (Nat.succ n) fun len => cond (ok1 s0 J bent k s0 0 1 0 0 len L t) (cond (ok1 s0 J bent k s1 1 0 1 0 len L t) (cond (ok1 s0 J bent k s2 2 0 0 1 len L t) (ok3 s0 s1 s2 J bent k L t n) false) false) false) (ok3 s0 s1 s2 J bent k L t n)
def an1 (s0 J bent k z so e0 e1 e2 len a b c d : Nat) (t : List (List Q4)) : Bool := cond (Nat.ble len z) (frc (cuL k s0 z bent so len) fun cu => iAny e0 e1 e2 cu a b c d (candL J k len t)) false
def an3 (s0 s1 s2 J bent k a b c d : Nat) (t : List (List Q4)) : Nat → Bool
  | 0 => false
  | n + 1 => cond (Nat.ble (Nat.succ n) k) (frc (Nat.succ n) fun len => cond (an1 s0 J bent k s0 0 1 0 0 len a b c d t) true (cond (an1 s0 J bent k s1 1 0 1 0 len a b c d t) true (cond (an1 s0 J bent k s2 2 0 0 1 len a b c d t) true (an3 s0 s1 s2 J bent k a b c d t n)))) (an3 s0 s1 s2 J bent k a b c d t n)
def anL (s0 s1 s2 J bent k : Nat) (t : List (List Q4)) : List Q4 → Bool
  | [] => true
  | (a, b, c, d) :: L => cond (an3 s0 s1 s2 J bent k a b c d t 9) (anL s0 s1 s2 J bent k t L) false
def chk (s0 s1 s2 J bent : Nat) : Nat → Nat → List (List Q4) → Bool
  | 0, _, _ => true
  | f + 1, k, t => match lay4 s0 s1 s2 J k bent with
    | (_, L) => cond (ok3 s0 s1 s2 J bent k L t 9) (cond (anL s0 s1 s2 J bent k t L) (frc (Nat.succ k) fun k => chk s0 s1 s2 J bent f k (L :: t)) false) false
def chkB (s0 s1 s2 J : Nat) : Bool := cond (chk s0 s1 s2 J 0 12 1 []) (chk s0 s1 s2 J 1 12 1 []) false
def chkJ (s0 s1 s2 : Nat) : Bool := cond (chkB s0 s1 s2 0) (cond (chkB s0 s1 s2 1) (chkB s0 s1 s2 2) false) false
