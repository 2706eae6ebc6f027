/-! ===== PURE: run (79): the machine's picture ===== -/
/-- what lies on the stack above the variables: its kind (0 a value, 1 the class's 0 of a minus, 2 a for, 3 a try, 4 a condition, 5 a step paid, 6 each, 7 what a fold had, 8 fold), THINGS (last laid first), a number (of an each or a fold: twice how many are done, one more while one is at work) -/
abbrev It : Type := Nat × List Nod × Nat
/-- an open call: its place, 1 where it goes over something, its variables, what lies above them (last laid first) -/
abbrev Fm : Type := Nat × Nat × List (Option Nod) × List It
/-- its longs on the class's stack -/
def iC (a : It) : List (Option Nod) := if a.1 = 0 ∨ a.1 = 7 then a.2.1.map some else if a.1 = 1 then [some (nZ 0)] else if a.1 = 2 ∨ a.1 = 6 ∨ a.1 = 8 then some (nZ (Int32.ofNat (if a.1 = 2 then a.2.2 else a.2.2 / 2))) :: a.2.1.map some else []
/-- its values on the reference's -/
def iR (a : It) : List Nod := if a.1 = 0 then a.2.1 else if a.1 = 6 then a.2.1.dropLast else []
def cIt (l : List It) : List (Option Nod) := l.flatMap iC
def rIt (l : List It) : List Nod := l.flatMap iR
def cStk : List Fm → List (Option Nod)
  | [] => []
  | a :: F => cIt a.2.2.2 ++ (a.2.2.1.reverse ++ cStk F)
def rStk : List Fm → List Nod
  | [] => []
  | a :: F => rIt a.2.2.2 ++ rStk F
/-- the reference's ways: what, how high its stack was, how deep -/
def wIt (b d : Nat) : List It → List (It × Nat × Nat)
  | [] => []
  | a :: l => if a.1 = 2 ∨ a.1 = 3 ∨ a.1 = 6 ∨ a.1 = 8 then (a, (rIt l).length + b, d) :: wIt b d l else wIt b d l
def wStk : List Fm → List (It × Nat × Nat)
  | [] => []
  | a :: F => wIt (rStk F).length (F.length + 1) a.2.2.2 ++ wStk F
/-- the class's tries: the place, how high its stack was, how many calls -/
def tIt (b d : Nat) : List It → List (Nat × Nat × Nat)
  | [] => []
  | a :: l => if a.1 = 3 then (a.2.2, (cIt l).length + b, d) :: tIt b d l else tIt b d l
def tStk : List Fm → List (Nat × Nat × Nat)
  | [] => []
  | a :: F => tIt (a.2.2.1.length + (cStk F).length) (F.length + 1) a.2.2.2 ++ tStk F
abbrev kd (l : List It) : List Nat := l.map fun a => a.1
/-- the instruction at a place -/
abbrev inA (code : List Ins) (m : Nat) : Ins := code.getD m dI
/-- what lies above the variables is well: from a to z the function goes -/
def okI1 (code : List Ins) (b z : Nat) (a : It) (l : List It) : Prop := a.1 ≤ 8 ∧ (a.1 = 0 ∨ a.1 = 7 → ∃ x, a.2.1 = [x]) ∧ (a.1 = 2 → ∃ x, a.2.1 = [x] ∧ (kn x = 0 → ¬ ivN x < 0 ∧ a.2.2 ≤ (ivN x).toNatClampNeg) ∧ (¬ kn x = 0 → a.2.2 ≤ szN x)) ∧ (a.1 = 3 → a.2.2 < code.length ∧ (inA code a.2.2).1 = 23 ∧ b ≤ (inA code a.2.2).2.1 ∧ (inA code a.2.2).2.1 < z ∧ (inA code (inA code a.2.2).2.1).1 = 25 ∧ (inA code (inA code a.2.2).2.1).2.2.1 = (inA code a.2.2).2.2.1 ∧ (inA code (inA code a.2.2).2.1).2.2.2.2.1 = (inA code a.2.2).2.2.2.2.1 ∧ lyo (code.take (inA code a.2.2).2.1) = some (9 :: kd l)) ∧ (a.1 = 6 → ∃ rs x, a.2.1 = rs ++ [x] ∧ rs.length = a.2.2 / 2 ∧ ¬ kn x = 0 ∧ (a.2.2 + 1) / 2 ≤ szN x) ∧ (a.1 = 8 → ∃ x, a.2.1 = [x] ∧ ¬ kn x = 0 ∧ (a.2.2 + 1) / 2 ≤ szN x)
def okIs (code : List Ins) (b z : Nat) : List It → Prop
  | [] => True
  | a :: l => okI1 code b z a l ∧ okIs code b z l
/-- nothing that goes over something -/
def plI (l : List It) : Prop := ∀ y ∈ l, y.1 ≤ 5
/-- over what it goes -/
def wlk (c : Ins) (L : List Nat) (q : Nat) (l : List It) : Prop := c.1 = 10 ∧ ((c.2.2.1 = 1 ∧ ∃ a I, l = a :: I ∧ a.1 = 6 ∧ (pop0 1 L = some (kd I) ∧ a.2.2 % 2 = if q = 7 then 1 else 0) ∧ plI I) ∨ (c.2.2.1 = 2 ∧ ∃ a y I, l = a :: y :: I ∧ a.1 = 8 ∧ y.1 = q ∧ (pop0 2 L = some (kd I) ∧ a.2.2 % 2 = if q = 7 then 1 else 0) ∧ plI I))
/-- the innermost call -/
def tyA (code : List Ins) (a : Fm) : Prop := ∃ L, lyo (code.take a.1) = some L ∧ ((a.2.1 = 0 ∧ kd a.2.2.2 = L ∧ plI a.2.2.2) ∨ (a.2.1 = 1 ∧ wlk (inA code a.1) L 0 a.2.2.2))
/-- a call that waits -/
def tyS (code : List Ins) (a : Fm) : Prop := ∃ L, lyo (code.take a.1) = some L ∧ (((inA code a.1).1 = 9 ∧ pop0 (inA code a.1).2.2.1 L = some (kd a.2.2.2) ∧ plI a.2.2.2) ∨ wlk (inA code a.1) L 7 a.2.2.2)
/-- it is one of the functions -/
def inF (code : List Ins) (Fs : List Fn) (a : Fm) : Prop := ∃ g ∈ Fs, g.2.2.2.2.1 ≤ a.1 ∧ a.1 < g.2.2.2.2.2 ∧ a.2.2.1.length = g.2.2.2.1 ∧ okIs code g.2.2.2.2.1 g.2.2.2.2.2 a.2.2.2
def tyT (code : List Ins) (Fs : List Fn) (F : List Fm) : Prop := ∀ a ∈ F, tyS code a ∧ inF code Fs a
/-- all THINGS are well -/
def gdS (l : List (Option Nod)) : Prop := ∀ x, some x ∈ l → wfN x ∧ x.1 ≤ 4
/-- where a call goes on behind -/
def cBk (code : List Ins) : List Fm → Nat
  | [] => 0
  | a :: _ => posC code a.1 + (if (inA code a.1).1 = 10 then 2 else 1)
def rBk (h : Nat) (code : List Ins) : List Fm → Int32
  | [] => -1
  | a :: _ => Int32.ofNat (ob0 h + posR code a.1 + 1)
def cFr (t : cS) (code : List Ins) : List Fm → Prop
  | [] => True
  | _ :: F => (kA t 53).2 F.length = Int32.ofNat (cStk F).length ∧ (kA t 54).2 F.length = Int32.ofNat (cBk code F) ∧ cFr t code F
/-- what a variable of the reference is -/
def rvo (h : Nat → Int32) (f : Nat) (k v : Int32) : Option Nod → Prop
  | none => k = Int32.ofNat 2
  | some x => rvl h f k v x
def rFr (s : mS) (f h : Nat) (code : List Ins) : List Fm → Prop
  | [] => True
  | a :: F => s.2.2.1 74 F.length = Int32.ofNat (rStk F).length ∧ s.2.2.1 75 F.length = rBk h code F ∧ s.2.2.1 76 F.length = Int32.ofNat (wStk F).length ∧ (∀ i, i < 14 → rvo (s.2.2.1 47) f (s.2.2.1 77 (14 * F.length + i)) (s.2.2.1 78 (14 * F.length + i)) (a.2.2.1.getD i none)) ∧ rFr s f h code F
/-- a try of the class -/
def tryP (code : List Ins) (v : Int32 × Int32 × Int32) (x : Nat × Nat × Nat) : Prop := v.1 = Int32.ofNat x.2.2 ∧ v.2.1 = Int32.ofNat x.2.1 ∧ v.2.2 = Int32.ofNat (posC code (inA code x.1).2.1)
/-- a way of the reference -/
def wayP (g : Nat → Int32) (f h : Nat) (code : List Ins) (v : Int32 × Int32 × Int32 × Int32 × Int32 × Int32) (x : It × Nat × Nat) : Prop := (x.1.1 = 2 → v.1 = Int32.ofNat 1 ∧ v.2.2.1 = Int32.ofNat x.1.2.2 ∧ ∀ y, x.1.2.1 = [y] → (kn y = 0 → v.2.1 = -1 ∧ v.2.2.2.1 = ivN y) ∧ (¬ kn y = 0 → ∃ a, v.2.1 = Int32.ofNat a ∧ LayN g (Rf f) a y ∧ v.2.2.2.1 = Int32.ofNat (szN y))) ∧ (x.1.1 = 3 → v = (Int32.ofNat 2, Int32.ofNat (ob0 h + posR code (inA code x.1.2.2).2.1), Int32.ofNat (inA code x.1.2.2).2.2.1, (inA code x.1.2.2).2.2.2.2.1, Int32.ofNat x.2.1, Int32.ofNat x.2.2)) ∧ (x.1.1 = 6 ∨ x.1.1 = 8 → v.1 = Int32.ofNat (if x.1.1 = 6 then 3 else 4) ∧ v.2.2.1 = Int32.ofNat ((x.1.2.2 + 1) / 2) ∧ (x.1.1 = 6 → v.2.2.2.2.1 = Int32.ofNat x.2.1) ∧ ∀ rs y, x.1.2.1 = rs ++ [y] → ∃ a, v.2.1 = Int32.ofNat a ∧ LayN g (Rf f) a y ∧ v.2.2.2.1 = Int32.ofNat (szN y))
/-- what the class has of it -/
def CM0 (t : cS) (u : Nat) (code : List Ins) (F : List Fm) (sh S0 : Nat → Option Nod) : Prop := cSk t u (cStk F) ∧ cFr t code F ∧ stk (tryP code) (fun i => ((kA t 55).2 i, (kA t 56).2 i, (kA t 57).2 i)) (tStk F) ∧ ((kA t 53).1 = 10 ∧ (kA t 54).1 = 10 ∧ (kB t 50).1 = 8 ∧ (kA t 51).1 = 8 ∧ (kA t 60).1 = 64) ∧ ((tStk F).length ≤ (kA t 55).1 ∧ (kA t 56).1 = (kA t 55).1 ∧ (kA t 57).1 = (kA t 55).1 ∧ 1 ≤ (kA t 55).1 ∧ (kA t 55).1 ≤ 1000) ∧ (∀ i, i < 8 → cC (cel t) u ((kB t 50).2 i) (sh i) ∧ ((kA t 51).2 i = 0 ∨ (kA t 51).2 i = 1) ∧ ((kA t 51).2 i = 0 → sh i = S0 i)) ∧ kI t 49 11 = Int32.ofNat F.length ∧ kI t 49 15 = Int32.ofNat (tStk F).length
/-- what the reference has -/
def RM0 (s : mS) (f h : Nat) (code : List Ins) (F : List Fm) (sh : Nat → Option Nod) : Prop := stk (fun v x => rvl (s.2.2.1 47) f v.1 v.2 x) (fun i => (s.2.2.1 49 i, s.2.2.1 50 i)) (rStk F) ∧ rFr s f h code F ∧ stk (wayP (s.2.2.1 47) f h code) (fun i => (s.2.2.1 80 i, s.2.2.1 81 i, s.2.2.1 82 i, s.2.2.1 83 i, s.2.2.1 84 i, s.2.2.1 85 i)) (wStk F) ∧ (∀ i, i < 8 → rvo (s.2.2.1 47) f (s.2.2.1 71 i) (s.2.2.1 72 i) (sh i)) ∧ LayN (s.2.2.1 47) (Rf f) 154240 (nR []) ∧ s.1 73 = Int32.ofNat F.length ∧ s.1 79 = Int32.ofNat (wStk F).length ∧ s.1 48 = Int32.ofNat f
/-- steps, made, the most calls, taken -/
abbrev Ty : Type := Nat × Nat × Nat × Nat
def cTy (t : cS) (fu : Nat) (T : Ty) : Prop := kI t 48 1 = Int32.ofNat fu ∧ kI t 48 2 = Int32.ofNat T.1 ∧ kI t 48 3 = Int32.ofNat T.2.1 ∧ kI t 48 4 = Int32.ofNat T.2.2.1 ∧ kI t 48 5 = Int32.ofNat T.2.2.2
def rTy (s : mS) (fu : Nat) (T : Ty) : Prop := s.1 61 = Int32.ofNat fu ∧ s.1 60 = Int32.ofNat T.1 ∧ s.1 62 = Int32.ofNat T.2.1 ∧ s.1 63 = Int32.ofNat T.2.2.1 ∧ s.1 64 = Int32.ofNat T.2.2.2
/-- all is well with the tally -/
def okTy (fu : Nat) (T : Ty) : Prop := fu ≤ 20000 ∧ T.1 ≤ fu ∧ T.2.1 ≤ 3000 ∧ T.2.2.1 ≤ 10 ∧ 300 * T.2.2.2 ≤ T.2.1
/-- the programs -/
def cEv (t : cS) (p : Nat) (code : List Ins) (Fs : List Fn) : Prop := kP t 49 16 = some p ∧ (p = 12 ∨ p = 21) ∧ cPg t p (CA code) ∧ cFt t p Fs.length code Fs
def rEv (s : mS) (h : Nat) (code : List Ins) (Fs : List Fn) : Prop := h ≤ 1 ∧ rPg s h (RA h code) ∧ rFp s h code Fs
