/-! ===== the class's cells, as one state (printed by program: gen30.py) ===== -/
/-- ints and longs of objects (by key and field), references of objects; int arrays, long arrays (by key: length, contents); the marks; where arrays lie; what is in limbo (0: nothing, 1: ints, 2: longs, 3: bytes); which cells are Shelves; cells, slots -/
abbrev cS : Type := (Nat → Nat → Int32) × (Nat → Nat → Int64) × (Nat → Nat → Option Nat) × (Nat → Nat × (Nat → Int32)) × (Nat → Nat × (Nat → Int64)) × (Nat → Option Nat) × (Nat → Nat) × Nat × (Nat → Bool) × Nat × Nat
def kI (t : cS) : Nat → Nat → Int32 := t.1
def kL (t : cS) : Nat → Nat → Int64 := t.2.1
def kP (t : cS) : Nat → Nat → Option Nat := t.2.2.1
def kA (t : cS) : Nat → Nat × (Nat → Int32) := t.2.2.2.1
def kB (t : cS) : Nat → Nat × (Nat → Int64) := t.2.2.2.2.1
def kM (t : cS) : Nat → Option Nat := t.2.2.2.2.2.1
def kD (t : cS) : Nat → Nat := t.2.2.2.2.2.2.1
def kZ (t : cS) : Nat := t.2.2.2.2.2.2.2.1
def kH (t : cS) : Nat → Bool := t.2.2.2.2.2.2.2.2.1
def kN (t : cS) : Nat := t.2.2.2.2.2.2.2.2.2.1
def kQ (t : cS) : Nat := t.2.2.2.2.2.2.2.2.2.2
def jI (t : cS) (k f : Nat) (x : Int32) : cS := (fun a b => if a = k ∧ b = f then x else kI t a b, t.2)
def jL (t : cS) (k f : Nat) (x : Int64) : cS := (kI t, fun a b => if a = k ∧ b = f then x else kL t a b, t.2.2)
def jP (t : cS) (k f : Nat) (x : Option Nat) : cS := (kI t, kL t, fun a b => if a = k ∧ b = f then x else kP t a b, t.2.2.2)
def jA (t : cS) (k : Nat) (g : Nat → Int32) : cS := (kI t, kL t, kP t, fun a => if a = k then ((kA t k).1, g) else kA t a, t.2.2.2.2)
def jB (t : cS) (k : Nat) (g : Nat → Int64) : cS := (kI t, kL t, kP t, kA t, fun a => if a = k then ((kB t k).1, g) else kB t a, t.2.2.2.2.2)
def jM (t : cS) (g : Nat → Option Nat) : cS := (kI t, kL t, kP t, kA t, kB t, g, t.2.2.2.2.2.2)
/-- a new array of ints (z = 1), of bytes (z = 3), in limbo -/
def jNI (t : cS) (z n : Nat) (g : Nat → Int32) : cS := (kI t, kL t, kP t, fun a => if a = 111 then (n, g) else kA t a, kB t, kM t, fun a => if a = 111 then kN t else kD t a, z, kH t, kN t + 1, kQ t + n)
def jNL (t : cS) (n : Nat) (g : Nat → Int64) : cS := (kI t, kL t, kP t, kA t, fun a => if a = 111 then (n, g) else kB t a, kM t, fun a => if a = 111 then kN t else kD t a, 2, kH t, kN t + 1, kQ t + n)
/-- what is in limbo becomes array k -/
def jMv (t : cS) (k : Nat) : cS := (kI t, kL t, kP t, fun a => if a = k then kA t 111 else kA t a, fun a => if a = k then kB t 111 else kB t a, kM t, fun a => if a = k then kD t 111 else kD t a, 0, kH t, kN t, kQ t)
/-- a cell that nothing refers to -/
def jX (t : cS) (n : Nat) : cS := (kI t, kL t, kP t, kA t, kB t, kM t, kD t, kZ t, kH t, kN t + 1, kQ t + n)
/-- new Shelves -/
def jSh (t : cS) : cS := (fun a b => if a = 3000000 + kN t ∧ b = 2 then 0 else kI t a b, kL t, kP t, fun a => if 2000000 + 20 * kN t ≤ a ∧ a < 2000000 + 20 * kN t + 20 then (if a = 2000000 + 20 * kN t + 10 then 8 else 4, fun _ => 0) else kA t a, kB t, kM t, fun a => if 2000000 + 20 * kN t ≤ a ∧ a < 2000000 + 20 * kN t + 20 then kN t + (a - (2000000 + 20 * kN t)) else kD t a, kZ t, fun a => if a = kN t then true else kH t a, kN t + 11, kQ t + 51)
def kint (t : cS) (ty k : Nat) : Option zz_C := some (.inl (ty, (kA t k).1, .inl (kA t k).2))
def klng (t : cS) (k : Nat) : Option zz_C := some (.inl (1, (kB t k).1, .inr (.inl (kB t k).2)))
def kVo (t : cS) (k : Nat) : Option zz_C := match k with
  | 0 => some (.inr (12, [.ref (kD t 1), .int (kI t 0 1), .ref 2, zz_rv (kP t 0 3), zz_rv (kP t 0 4), .int (kI t 0 5), .int (kI t 0 6), zz_rv (kP t 0 7), .ref (kD t 41), .int (kI t 0 9), .ref 42, .ref 45, .ref 48, .ref 49]))
  | 2 => some (.inr (5, [.ref 3, zz_rv (kP t 2 1), .int (kI t 2 2), .ref (kD t 7), .int (kI t 2 4), .ref (kD t 8), .ref (kD t 9), .ref (kD t 10), .ref (kD t 11), .int (kI t 2 9), .int (kI t 2 10), .int (kI t 2 11)]))
  | 3 => some (.inr (10, [.ref (kD t 4), .ref (kD t 5), .ref (kD t 6), .int (kI t 3 3), .int (kI t 3 4), .int (kI t 3 5), .int (kI t 3 6), .long (kL t 3 7)]))
  | 42 => some (.inr (2, [.ref (kD t 43), .int (kI t 42 1), .ref (kD t 44), .int (kI t 42 3)]))
  | 45 => some (.inr (4, [.ref (kD t 46), .int (kI t 45 1), .ref (kD t 47)]))
  | 48 => some (.inr (9, [.int (kI t 48 0), .int (kI t 48 1), .int (kI t 48 2), .int (kI t 48 3), .int (kI t 48 4), .int (kI t 48 5), .int (kI t 48 6), .int (kI t 48 7), .int (kI t 48 8)]))
  | 49 => some (.inr (3, [.ref 42, .ref 45, .ref 48, .ref 58, .ref 59, .ref (kD t 50), .ref (kD t 51), .ref (kD t 52), .int (kI t 49 8), .ref (kD t 53), .ref (kD t 54), .int (kI t 49 11), .ref (kD t 55), .ref (kD t 56), .ref (kD t 57), .int (kI t 49 15), zz_rv (kP t 49 16), .int (kI t 49 17), .int (kI t 49 18)]))
  | 58 => some (.inr (8, [.ref 42, .int (kI t 58 1)]))
  | 59 => some (.inr (1, [.ref 42, .ref (kD t 60)]))
  | 12 => some (.inr (6, [.ref (kD t 13), .ref (kD t 14), .ref (kD t 15), .int (kI t 12 3), .int (kI t 12 4), .ref (kD t 16), .ref (kD t 17), .ref (kD t 18), .ref (kD t 19), .ref (kD t 20)]))
  | 21 => some (.inr (6, [.ref (kD t 22), .ref (kD t 23), .ref (kD t 24), .int (kI t 21 3), .int (kI t 21 4), .ref (kD t 25), .ref (kD t 26), .ref (kD t 27), .ref (kD t 28), .ref (kD t 29)]))
  | _ => none
def kVa0 (t : cS) (k : Nat) : Option zz_C := match k with
  | 1 => kint t 2 1
  | 4 => kint t 0 4
  | 5 => kint t 0 5
  | 6 => klng t 6
  | 7 => klng t 7
  | 8 => kint t 0 8
  | 9 => klng t 9
  | 10 => kint t 0 10
  | 11 => kint t 0 11
  | 13 => kint t 0 13
  | 14 => kint t 0 14
  | 15 => kint t 0 15
  | 16 => klng t 16
  | 17 => kint t 0 17
  | 18 => kint t 0 18
  | 19 => kint t 0 19
  | 20 => kint t 0 20
  | 22 => kint t 0 22
  | 23 => kint t 0 23
  | 24 => kint t 0 24
  | 25 => klng t 25
  | 26 => kint t 0 26
  | 27 => kint t 0 27
  | 28 => kint t 0 28
  | 29 => kint t 0 29
  | 43 => klng t 43
  | 44 => klng t 44
  | 46 => kint t 2 46
  | 47 => kint t 2 47
  | 50 => klng t 50
  | 51 => kint t 3 51
  | 52 => klng t 52
  | 53 => kint t 0 53
  | 54 => kint t 0 54
  | 55 => kint t 0 55
  | 56 => kint t 0 56
  | 57 => kint t 0 57
  | 60 => kint t 0 60
  | 41 => some (.inl (4, 6, .inr (.inr (.inr (.inr (kM t))))))
  | 111 => if kZ t = 1 then kint t 0 111 else if kZ t = 2 then klng t 111 else if kZ t = 3 then kint t 2 111 else none
  | _ => none
def kVaS (t : cS) (k j : Nat) : Option zz_C := if j = 1 then some (.inl (5, 8, .inr (.inr (.inr (.inr fun i => if i < 8 then some (kD t (k + 1 + i)) else none))))) else if j = 0 ∨ 10 < j then none else kint t 0 k
/-- the arrays -/
def kVa (t : cS) (k : Nat) : Option zz_C := if k < 2000000 then kVa0 t k else if kH t ((k - 2000000) / 20) = true then kVaS t k ((k - 2000000) % 20) else none
/-- Shelves -/
def kVs (t : cS) (k : Nat) : zz_C := .inr (7, [.ref (kD t (2000000 + 20 * k + 1)), .ref (kD t (2000000 + 20 * k + 10)), .int (kI t (3000000 + k) 2)])
/-- a heap that bears the class's cells in state t, the reference's in state s -/
def kR (h : zz_H) (t : cS) (s : mS) : Prop := ∃ own : Nat → Nat,
  (∀ k c, kVo t k = some c → h[k]? = some c ∧ own k = 4 * k) ∧
  (∀ k c, kVa t k = some c → h[kD t k]? = some c ∧ own (kD t k) = 4 * k + 1) ∧
  (∀ k, kH t k = true → h[k]? = some (kVs t k) ∧ own k = 4 * k + 2) ∧
  (∀ j, j < 50 → h[61 + j]? = (mC s)[j]? ∧ own (61 + j) = 4 * j + 3) ∧
  h.length = kN t ∧ zz_sl zt_nf h = kQ t ∧ kN t < zz_out
section KO
variable {t : cS}
theorem ko_0 : kVo t 0 = some (.inr (12, [.ref (kD t 1), .int (kI t 0 1), .ref 2, zz_rv (kP t 0 3), zz_rv (kP t 0 4), .int (kI t 0 5), .int (kI t 0 6), zz_rv (kP t 0 7), .ref (kD t 41), .int (kI t 0 9), .ref 42, .ref 45, .ref 48, .ref 49])) := rfl
theorem ko_2 : kVo t 2 = some (.inr (5, [.ref 3, zz_rv (kP t 2 1), .int (kI t 2 2), .ref (kD t 7), .int (kI t 2 4), .ref (kD t 8), .ref (kD t 9), .ref (kD t 10), .ref (kD t 11), .int (kI t 2 9), .int (kI t 2 10), .int (kI t 2 11)])) := rfl
theorem ko_3 : kVo t 3 = some (.inr (10, [.ref (kD t 4), .ref (kD t 5), .ref (kD t 6), .int (kI t 3 3), .int (kI t 3 4), .int (kI t 3 5), .int (kI t 3 6), .long (kL t 3 7)])) := rfl
theorem ko_42 : kVo t 42 = some (.inr (2, [.ref (kD t 43), .int (kI t 42 1), .ref (kD t 44), .int (kI t 42 3)])) := rfl
theorem ko_45 : kVo t 45 = some (.inr (4, [.ref (kD t 46), .int (kI t 45 1), .ref (kD t 47)])) := rfl
theorem ko_48 : kVo t 48 = some (.inr (9, [.int (kI t 48 0), .int (kI t 48 1), .int (kI t 48 2), .int (kI t 48 3), .int (kI t 48 4), .int (kI t 48 5), .int (kI t 48 6), .int (kI t 48 7), .int (kI t 48 8)])) := rfl
theorem ko_49 : kVo t 49 = some (.inr (3, [.ref 42, .ref 45, .ref 48, .ref 58, .ref 59, .ref (kD t 50), .ref (kD t 51), .ref (kD t 52), .int (kI t 49 8), .ref (kD t 53), .ref (kD t 54), .int (kI t 49 11), .ref (kD t 55), .ref (kD t 56), .ref (kD t 57), .int (kI t 49 15), zz_rv (kP t 49 16), .int (kI t 49 17), .int (kI t 49 18)])) := rfl
theorem ko_58 : kVo t 58 = some (.inr (8, [.ref 42, .int (kI t 58 1)])) := rfl
theorem ko_59 : kVo t 59 = some (.inr (1, [.ref 42, .ref (kD t 60)])) := rfl
theorem ko_P {q : Nat} (hq : q = 12 ∨ q = 21) : kVo t q = some (.inr (6, [.ref (kD t (q + 1)), .ref (kD t (q + 2)), .ref (kD t (q + 3)), .int (kI t q 3), .int (kI t q 4), .ref (kD t (q + 4)), .ref (kD t (q + 5)), .ref (kD t (q + 6)), .ref (kD t (q + 7)), .ref (kD t (q + 8))])) := by rcases hq with rfl | rfl <;> rfl
theorem ka_1 : kVa t 1 = some (.inl (2, (kA t 1).1, .inl (kA t 1).2)) := rfl
theorem ka_4 : kVa t 4 = some (.inl (0, (kA t 4).1, .inl (kA t 4).2)) := rfl
theorem ka_5 : kVa t 5 = some (.inl (0, (kA t 5).1, .inl (kA t 5).2)) := rfl
theorem ka_6 : kVa t 6 = some (.inl (1, (kB t 6).1, .inr (.inl (kB t 6).2))) := rfl
theorem ka_7 : kVa t 7 = some (.inl (1, (kB t 7).1, .inr (.inl (kB t 7).2))) := rfl
theorem ka_8 : kVa t 8 = some (.inl (0, (kA t 8).1, .inl (kA t 8).2)) := rfl
theorem ka_9 : kVa t 9 = some (.inl (1, (kB t 9).1, .inr (.inl (kB t 9).2))) := rfl
theorem ka_10 : kVa t 10 = some (.inl (0, (kA t 10).1, .inl (kA t 10).2)) := rfl
theorem ka_11 : kVa t 11 = some (.inl (0, (kA t 11).1, .inl (kA t 11).2)) := rfl
theorem ka_43 : kVa t 43 = some (.inl (1, (kB t 43).1, .inr (.inl (kB t 43).2))) := rfl
theorem ka_44 : kVa t 44 = some (.inl (1, (kB t 44).1, .inr (.inl (kB t 44).2))) := rfl
theorem ka_46 : kVa t 46 = some (.inl (2, (kA t 46).1, .inl (kA t 46).2)) := rfl
theorem ka_47 : kVa t 47 = some (.inl (2, (kA t 47).1, .inl (kA t 47).2)) := rfl
theorem ka_50 : kVa t 50 = some (.inl (1, (kB t 50).1, .inr (.inl (kB t 50).2))) := rfl
theorem ka_51 : kVa t 51 = some (.inl (3, (kA t 51).1, .inl (kA t 51).2)) := rfl
theorem ka_52 : kVa t 52 = some (.inl (1, (kB t 52).1, .inr (.inl (kB t 52).2))) := rfl
theorem ka_53 : kVa t 53 = some (.inl (0, (kA t 53).1, .inl (kA t 53).2)) := rfl
theorem ka_54 : kVa t 54 = some (.inl (0, (kA t 54).1, .inl (kA t 54).2)) := rfl
theorem ka_55 : kVa t 55 = some (.inl (0, (kA t 55).1, .inl (kA t 55).2)) := rfl
theorem ka_56 : kVa t 56 = some (.inl (0, (kA t 56).1, .inl (kA t 56).2)) := rfl
theorem ka_57 : kVa t 57 = some (.inl (0, (kA t 57).1, .inl (kA t 57).2)) := rfl
theorem ka_60 : kVa t 60 = some (.inl (0, (kA t 60).1, .inl (kA t 60).2)) := rfl
theorem ka_P1 {q : Nat} (hq : q = 12 ∨ q = 21) : kVa t (q + 1) = some (.inl (0, (kA t (q + 1)).1, .inl (kA t (q + 1)).2)) := by rcases hq with rfl | rfl <;> rfl
theorem ka_P2 {q : Nat} (hq : q = 12 ∨ q = 21) : kVa t (q + 2) = some (.inl (0, (kA t (q + 2)).1, .inl (kA t (q + 2)).2)) := by rcases hq with rfl | rfl <;> rfl
theorem ka_P3 {q : Nat} (hq : q = 12 ∨ q = 21) : kVa t (q + 3) = some (.inl (0, (kA t (q + 3)).1, .inl (kA t (q + 3)).2)) := by rcases hq with rfl | rfl <;> rfl
theorem ka_P4 {q : Nat} (hq : q = 12 ∨ q = 21) : kVa t (q + 4) = some (.inl (1, (kB t (q + 4)).1, .inr (.inl (kB t (q + 4)).2))) := by rcases hq with rfl | rfl <;> rfl
theorem ka_P5 {q : Nat} (hq : q = 12 ∨ q = 21) : kVa t (q + 5) = some (.inl (0, (kA t (q + 5)).1, .inl (kA t (q + 5)).2)) := by rcases hq with rfl | rfl <;> rfl
theorem ka_P6 {q : Nat} (hq : q = 12 ∨ q = 21) : kVa t (q + 6) = some (.inl (0, (kA t (q + 6)).1, .inl (kA t (q + 6)).2)) := by rcases hq with rfl | rfl <;> rfl
theorem ka_P7 {q : Nat} (hq : q = 12 ∨ q = 21) : kVa t (q + 7) = some (.inl (0, (kA t (q + 7)).1, .inl (kA t (q + 7)).2)) := by rcases hq with rfl | rfl <;> rfl
theorem ka_P8 {q : Nat} (hq : q = 12 ∨ q = 21) : kVa t (q + 8) = some (.inl (0, (kA t (q + 8)).1, .inl (kA t (q + 8)).2)) := by rcases hq with rfl | rfl <;> rfl
theorem ka_41 : kVa t 41 = some (.inl (4, 6, .inr (.inr (.inr (.inr (kM t)))))) := rfl
theorem kpa_0_0 : kVo (jMv t 1) 0 = some (.inr (12, List.set [.ref (kD t 1), .int (kI t 0 1), .ref 2, zz_rv (kP t 0 3), zz_rv (kP t 0 4), .int (kI t 0 5), .int (kI t 0 6), zz_rv (kP t 0 7), .ref (kD t 41), .int (kI t 0 9), .ref 42, .ref 45, .ref 48, .ref 49] 0 (.ref (kD t 111)))) := rfl
theorem kpi_0_1 (x : Int32) : kVo (jI t 0 1 x) 0 = some (.inr (12, List.set [.ref (kD t 1), .int (kI t 0 1), .ref 2, zz_rv (kP t 0 3), zz_rv (kP t 0 4), .int (kI t 0 5), .int (kI t 0 6), zz_rv (kP t 0 7), .ref (kD t 41), .int (kI t 0 9), .ref 42, .ref 45, .ref 48, .ref 49] 1 (.int x))) := rfl
theorem kpi_0_3 (x : Option Nat) : kVo (jP t 0 3 x) 0 = some (.inr (12, List.set [.ref (kD t 1), .int (kI t 0 1), .ref 2, zz_rv (kP t 0 3), zz_rv (kP t 0 4), .int (kI t 0 5), .int (kI t 0 6), zz_rv (kP t 0 7), .ref (kD t 41), .int (kI t 0 9), .ref 42, .ref 45, .ref 48, .ref 49] 3 (zz_rv x))) := rfl
theorem kpi_0_4 (x : Option Nat) : kVo (jP t 0 4 x) 0 = some (.inr (12, List.set [.ref (kD t 1), .int (kI t 0 1), .ref 2, zz_rv (kP t 0 3), zz_rv (kP t 0 4), .int (kI t 0 5), .int (kI t 0 6), zz_rv (kP t 0 7), .ref (kD t 41), .int (kI t 0 9), .ref 42, .ref 45, .ref 48, .ref 49] 4 (zz_rv x))) := rfl
theorem kpi_0_5 (x : Int32) : kVo (jI t 0 5 x) 0 = some (.inr (12, List.set [.ref (kD t 1), .int (kI t 0 1), .ref 2, zz_rv (kP t 0 3), zz_rv (kP t 0 4), .int (kI t 0 5), .int (kI t 0 6), zz_rv (kP t 0 7), .ref (kD t 41), .int (kI t 0 9), .ref 42, .ref 45, .ref 48, .ref 49] 5 (.int x))) := rfl
theorem kpi_0_6 (x : Int32) : kVo (jI t 0 6 x) 0 = some (.inr (12, List.set [.ref (kD t 1), .int (kI t 0 1), .ref 2, zz_rv (kP t 0 3), zz_rv (kP t 0 4), .int (kI t 0 5), .int (kI t 0 6), zz_rv (kP t 0 7), .ref (kD t 41), .int (kI t 0 9), .ref 42, .ref 45, .ref 48, .ref 49] 6 (.int x))) := rfl
theorem kpi_0_7 (x : Option Nat) : kVo (jP t 0 7 x) 0 = some (.inr (12, List.set [.ref (kD t 1), .int (kI t 0 1), .ref 2, zz_rv (kP t 0 3), zz_rv (kP t 0 4), .int (kI t 0 5), .int (kI t 0 6), zz_rv (kP t 0 7), .ref (kD t 41), .int (kI t 0 9), .ref 42, .ref 45, .ref 48, .ref 49] 7 (zz_rv x))) := rfl
theorem kpa_0_8 : kVo (jMv t 41) 0 = some (.inr (12, List.set [.ref (kD t 1), .int (kI t 0 1), .ref 2, zz_rv (kP t 0 3), zz_rv (kP t 0 4), .int (kI t 0 5), .int (kI t 0 6), zz_rv (kP t 0 7), .ref (kD t 41), .int (kI t 0 9), .ref 42, .ref 45, .ref 48, .ref 49] 8 (.ref (kD t 111)))) := rfl
theorem kpi_0_9 (x : Int32) : kVo (jI t 0 9 x) 0 = some (.inr (12, List.set [.ref (kD t 1), .int (kI t 0 1), .ref 2, zz_rv (kP t 0 3), zz_rv (kP t 0 4), .int (kI t 0 5), .int (kI t 0 6), zz_rv (kP t 0 7), .ref (kD t 41), .int (kI t 0 9), .ref 42, .ref 45, .ref 48, .ref 49] 9 (.int x))) := rfl
theorem kpi_2_1 (x : Option Nat) : kVo (jP t 2 1 x) 2 = some (.inr (5, List.set [.ref 3, zz_rv (kP t 2 1), .int (kI t 2 2), .ref (kD t 7), .int (kI t 2 4), .ref (kD t 8), .ref (kD t 9), .ref (kD t 10), .ref (kD t 11), .int (kI t 2 9), .int (kI t 2 10), .int (kI t 2 11)] 1 (zz_rv x))) := rfl
theorem kpi_2_2 (x : Int32) : kVo (jI t 2 2 x) 2 = some (.inr (5, List.set [.ref 3, zz_rv (kP t 2 1), .int (kI t 2 2), .ref (kD t 7), .int (kI t 2 4), .ref (kD t 8), .ref (kD t 9), .ref (kD t 10), .ref (kD t 11), .int (kI t 2 9), .int (kI t 2 10), .int (kI t 2 11)] 2 (.int x))) := rfl
theorem kpa_2_3 : kVo (jMv t 7) 2 = some (.inr (5, List.set [.ref 3, zz_rv (kP t 2 1), .int (kI t 2 2), .ref (kD t 7), .int (kI t 2 4), .ref (kD t 8), .ref (kD t 9), .ref (kD t 10), .ref (kD t 11), .int (kI t 2 9), .int (kI t 2 10), .int (kI t 2 11)] 3 (.ref (kD t 111)))) := rfl
theorem kpi_2_4 (x : Int32) : kVo (jI t 2 4 x) 2 = some (.inr (5, List.set [.ref 3, zz_rv (kP t 2 1), .int (kI t 2 2), .ref (kD t 7), .int (kI t 2 4), .ref (kD t 8), .ref (kD t 9), .ref (kD t 10), .ref (kD t 11), .int (kI t 2 9), .int (kI t 2 10), .int (kI t 2 11)] 4 (.int x))) := rfl
theorem kpa_2_5 : kVo (jMv t 8) 2 = some (.inr (5, List.set [.ref 3, zz_rv (kP t 2 1), .int (kI t 2 2), .ref (kD t 7), .int (kI t 2 4), .ref (kD t 8), .ref (kD t 9), .ref (kD t 10), .ref (kD t 11), .int (kI t 2 9), .int (kI t 2 10), .int (kI t 2 11)] 5 (.ref (kD t 111)))) := rfl
theorem kpa_2_6 : kVo (jMv t 9) 2 = some (.inr (5, List.set [.ref 3, zz_rv (kP t 2 1), .int (kI t 2 2), .ref (kD t 7), .int (kI t 2 4), .ref (kD t 8), .ref (kD t 9), .ref (kD t 10), .ref (kD t 11), .int (kI t 2 9), .int (kI t 2 10), .int (kI t 2 11)] 6 (.ref (kD t 111)))) := rfl
theorem kpa_2_7 : kVo (jMv t 10) 2 = some (.inr (5, List.set [.ref 3, zz_rv (kP t 2 1), .int (kI t 2 2), .ref (kD t 7), .int (kI t 2 4), .ref (kD t 8), .ref (kD t 9), .ref (kD t 10), .ref (kD t 11), .int (kI t 2 9), .int (kI t 2 10), .int (kI t 2 11)] 7 (.ref (kD t 111)))) := rfl
theorem kpa_2_8 : kVo (jMv t 11) 2 = some (.inr (5, List.set [.ref 3, zz_rv (kP t 2 1), .int (kI t 2 2), .ref (kD t 7), .int (kI t 2 4), .ref (kD t 8), .ref (kD t 9), .ref (kD t 10), .ref (kD t 11), .int (kI t 2 9), .int (kI t 2 10), .int (kI t 2 11)] 8 (.ref (kD t 111)))) := rfl
theorem kpi_2_9 (x : Int32) : kVo (jI t 2 9 x) 2 = some (.inr (5, List.set [.ref 3, zz_rv (kP t 2 1), .int (kI t 2 2), .ref (kD t 7), .int (kI t 2 4), .ref (kD t 8), .ref (kD t 9), .ref (kD t 10), .ref (kD t 11), .int (kI t 2 9), .int (kI t 2 10), .int (kI t 2 11)] 9 (.int x))) := rfl
theorem kpi_2_10 (x : Int32) : kVo (jI t 2 10 x) 2 = some (.inr (5, List.set [.ref 3, zz_rv (kP t 2 1), .int (kI t 2 2), .ref (kD t 7), .int (kI t 2 4), .ref (kD t 8), .ref (kD t 9), .ref (kD t 10), .ref (kD t 11), .int (kI t 2 9), .int (kI t 2 10), .int (kI t 2 11)] 10 (.int x))) := rfl
theorem kpi_2_11 (x : Int32) : kVo (jI t 2 11 x) 2 = some (.inr (5, List.set [.ref 3, zz_rv (kP t 2 1), .int (kI t 2 2), .ref (kD t 7), .int (kI t 2 4), .ref (kD t 8), .ref (kD t 9), .ref (kD t 10), .ref (kD t 11), .int (kI t 2 9), .int (kI t 2 10), .int (kI t 2 11)] 11 (.int x))) := rfl
theorem kpa_3_0 : kVo (jMv t 4) 3 = some (.inr (10, List.set [.ref (kD t 4), .ref (kD t 5), .ref (kD t 6), .int (kI t 3 3), .int (kI t 3 4), .int (kI t 3 5), .int (kI t 3 6), .long (kL t 3 7)] 0 (.ref (kD t 111)))) := rfl
theorem kpa_3_1 : kVo (jMv t 5) 3 = some (.inr (10, List.set [.ref (kD t 4), .ref (kD t 5), .ref (kD t 6), .int (kI t 3 3), .int (kI t 3 4), .int (kI t 3 5), .int (kI t 3 6), .long (kL t 3 7)] 1 (.ref (kD t 111)))) := rfl
theorem kpa_3_2 : kVo (jMv t 6) 3 = some (.inr (10, List.set [.ref (kD t 4), .ref (kD t 5), .ref (kD t 6), .int (kI t 3 3), .int (kI t 3 4), .int (kI t 3 5), .int (kI t 3 6), .long (kL t 3 7)] 2 (.ref (kD t 111)))) := rfl
theorem kpi_3_3 (x : Int32) : kVo (jI t 3 3 x) 3 = some (.inr (10, List.set [.ref (kD t 4), .ref (kD t 5), .ref (kD t 6), .int (kI t 3 3), .int (kI t 3 4), .int (kI t 3 5), .int (kI t 3 6), .long (kL t 3 7)] 3 (.int x))) := rfl
theorem kpi_3_4 (x : Int32) : kVo (jI t 3 4 x) 3 = some (.inr (10, List.set [.ref (kD t 4), .ref (kD t 5), .ref (kD t 6), .int (kI t 3 3), .int (kI t 3 4), .int (kI t 3 5), .int (kI t 3 6), .long (kL t 3 7)] 4 (.int x))) := rfl
theorem kpi_3_5 (x : Int32) : kVo (jI t 3 5 x) 3 = some (.inr (10, List.set [.ref (kD t 4), .ref (kD t 5), .ref (kD t 6), .int (kI t 3 3), .int (kI t 3 4), .int (kI t 3 5), .int (kI t 3 6), .long (kL t 3 7)] 5 (.int x))) := rfl
theorem kpi_3_6 (x : Int32) : kVo (jI t 3 6 x) 3 = some (.inr (10, List.set [.ref (kD t 4), .ref (kD t 5), .ref (kD t 6), .int (kI t 3 3), .int (kI t 3 4), .int (kI t 3 5), .int (kI t 3 6), .long (kL t 3 7)] 6 (.int x))) := rfl
theorem kpi_3_7 (x : Int64) : kVo (jL t 3 7 x) 3 = some (.inr (10, List.set [.ref (kD t 4), .ref (kD t 5), .ref (kD t 6), .int (kI t 3 3), .int (kI t 3 4), .int (kI t 3 5), .int (kI t 3 6), .long (kL t 3 7)] 7 (.long x))) := rfl
theorem kpa_42_0 : kVo (jMv t 43) 42 = some (.inr (2, List.set [.ref (kD t 43), .int (kI t 42 1), .ref (kD t 44), .int (kI t 42 3)] 0 (.ref (kD t 111)))) := rfl
theorem kpi_42_1 (x : Int32) : kVo (jI t 42 1 x) 42 = some (.inr (2, List.set [.ref (kD t 43), .int (kI t 42 1), .ref (kD t 44), .int (kI t 42 3)] 1 (.int x))) := rfl
theorem kpa_42_2 : kVo (jMv t 44) 42 = some (.inr (2, List.set [.ref (kD t 43), .int (kI t 42 1), .ref (kD t 44), .int (kI t 42 3)] 2 (.ref (kD t 111)))) := rfl
theorem kpi_42_3 (x : Int32) : kVo (jI t 42 3 x) 42 = some (.inr (2, List.set [.ref (kD t 43), .int (kI t 42 1), .ref (kD t 44), .int (kI t 42 3)] 3 (.int x))) := rfl
theorem kpa_45_0 : kVo (jMv t 46) 45 = some (.inr (4, List.set [.ref (kD t 46), .int (kI t 45 1), .ref (kD t 47)] 0 (.ref (kD t 111)))) := rfl
theorem kpi_45_1 (x : Int32) : kVo (jI t 45 1 x) 45 = some (.inr (4, List.set [.ref (kD t 46), .int (kI t 45 1), .ref (kD t 47)] 1 (.int x))) := rfl
theorem kpa_45_2 : kVo (jMv t 47) 45 = some (.inr (4, List.set [.ref (kD t 46), .int (kI t 45 1), .ref (kD t 47)] 2 (.ref (kD t 111)))) := rfl
theorem kpi_48_0 (x : Int32) : kVo (jI t 48 0 x) 48 = some (.inr (9, List.set [.int (kI t 48 0), .int (kI t 48 1), .int (kI t 48 2), .int (kI t 48 3), .int (kI t 48 4), .int (kI t 48 5), .int (kI t 48 6), .int (kI t 48 7), .int (kI t 48 8)] 0 (.int x))) := rfl
theorem kpi_48_1 (x : Int32) : kVo (jI t 48 1 x) 48 = some (.inr (9, List.set [.int (kI t 48 0), .int (kI t 48 1), .int (kI t 48 2), .int (kI t 48 3), .int (kI t 48 4), .int (kI t 48 5), .int (kI t 48 6), .int (kI t 48 7), .int (kI t 48 8)] 1 (.int x))) := rfl
theorem kpi_48_2 (x : Int32) : kVo (jI t 48 2 x) 48 = some (.inr (9, List.set [.int (kI t 48 0), .int (kI t 48 1), .int (kI t 48 2), .int (kI t 48 3), .int (kI t 48 4), .int (kI t 48 5), .int (kI t 48 6), .int (kI t 48 7), .int (kI t 48 8)] 2 (.int x))) := rfl
theorem kpi_48_3 (x : Int32) : kVo (jI t 48 3 x) 48 = some (.inr (9, List.set [.int (kI t 48 0), .int (kI t 48 1), .int (kI t 48 2), .int (kI t 48 3), .int (kI t 48 4), .int (kI t 48 5), .int (kI t 48 6), .int (kI t 48 7), .int (kI t 48 8)] 3 (.int x))) := rfl
theorem kpi_48_4 (x : Int32) : kVo (jI t 48 4 x) 48 = some (.inr (9, List.set [.int (kI t 48 0), .int (kI t 48 1), .int (kI t 48 2), .int (kI t 48 3), .int (kI t 48 4), .int (kI t 48 5), .int (kI t 48 6), .int (kI t 48 7), .int (kI t 48 8)] 4 (.int x))) := rfl
theorem kpi_48_5 (x : Int32) : kVo (jI t 48 5 x) 48 = some (.inr (9, List.set [.int (kI t 48 0), .int (kI t 48 1), .int (kI t 48 2), .int (kI t 48 3), .int (kI t 48 4), .int (kI t 48 5), .int (kI t 48 6), .int (kI t 48 7), .int (kI t 48 8)] 5 (.int x))) := rfl
theorem kpi_48_6 (x : Int32) : kVo (jI t 48 6 x) 48 = some (.inr (9, List.set [.int (kI t 48 0), .int (kI t 48 1), .int (kI t 48 2), .int (kI t 48 3), .int (kI t 48 4), .int (kI t 48 5), .int (kI t 48 6), .int (kI t 48 7), .int (kI t 48 8)] 6 (.int x))) := rfl
theorem kpi_48_7 (x : Int32) : kVo (jI t 48 7 x) 48 = some (.inr (9, List.set [.int (kI t 48 0), .int (kI t 48 1), .int (kI t 48 2), .int (kI t 48 3), .int (kI t 48 4), .int (kI t 48 5), .int (kI t 48 6), .int (kI t 48 7), .int (kI t 48 8)] 7 (.int x))) := rfl
theorem kpi_48_8 (x : Int32) : kVo (jI t 48 8 x) 48 = some (.inr (9, List.set [.int (kI t 48 0), .int (kI t 48 1), .int (kI t 48 2), .int (kI t 48 3), .int (kI t 48 4), .int (kI t 48 5), .int (kI t 48 6), .int (kI t 48 7), .int (kI t 48 8)] 8 (.int x))) := rfl
theorem kpa_49_5 : kVo (jMv t 50) 49 = some (.inr (3, List.set [.ref 42, .ref 45, .ref 48, .ref 58, .ref 59, .ref (kD t 50), .ref (kD t 51), .ref (kD t 52), .int (kI t 49 8), .ref (kD t 53), .ref (kD t 54), .int (kI t 49 11), .ref (kD t 55), .ref (kD t 56), .ref (kD t 57), .int (kI t 49 15), zz_rv (kP t 49 16), .int (kI t 49 17), .int (kI t 49 18)] 5 (.ref (kD t 111)))) := rfl
theorem kpa_49_6 : kVo (jMv t 51) 49 = some (.inr (3, List.set [.ref 42, .ref 45, .ref 48, .ref 58, .ref 59, .ref (kD t 50), .ref (kD t 51), .ref (kD t 52), .int (kI t 49 8), .ref (kD t 53), .ref (kD t 54), .int (kI t 49 11), .ref (kD t 55), .ref (kD t 56), .ref (kD t 57), .int (kI t 49 15), zz_rv (kP t 49 16), .int (kI t 49 17), .int (kI t 49 18)] 6 (.ref (kD t 111)))) := rfl
theorem kpa_49_7 : kVo (jMv t 52) 49 = some (.inr (3, List.set [.ref 42, .ref 45, .ref 48, .ref 58, .ref 59, .ref (kD t 50), .ref (kD t 51), .ref (kD t 52), .int (kI t 49 8), .ref (kD t 53), .ref (kD t 54), .int (kI t 49 11), .ref (kD t 55), .ref (kD t 56), .ref (kD t 57), .int (kI t 49 15), zz_rv (kP t 49 16), .int (kI t 49 17), .int (kI t 49 18)] 7 (.ref (kD t 111)))) := rfl
theorem kpi_49_8 (x : Int32) : kVo (jI t 49 8 x) 49 = some (.inr (3, List.set [.ref 42, .ref 45, .ref 48, .ref 58, .ref 59, .ref (kD t 50), .ref (kD t 51), .ref (kD t 52), .int (kI t 49 8), .ref (kD t 53), .ref (kD t 54), .int (kI t 49 11), .ref (kD t 55), .ref (kD t 56), .ref (kD t 57), .int (kI t 49 15), zz_rv (kP t 49 16), .int (kI t 49 17), .int (kI t 49 18)] 8 (.int x))) := rfl
theorem kpa_49_9 : kVo (jMv t 53) 49 = some (.inr (3, List.set [.ref 42, .ref 45, .ref 48, .ref 58, .ref 59, .ref (kD t 50), .ref (kD t 51), .ref (kD t 52), .int (kI t 49 8), .ref (kD t 53), .ref (kD t 54), .int (kI t 49 11), .ref (kD t 55), .ref (kD t 56), .ref (kD t 57), .int (kI t 49 15), zz_rv (kP t 49 16), .int (kI t 49 17), .int (kI t 49 18)] 9 (.ref (kD t 111)))) := rfl
theorem kpa_49_10 : kVo (jMv t 54) 49 = some (.inr (3, List.set [.ref 42, .ref 45, .ref 48, .ref 58, .ref 59, .ref (kD t 50), .ref (kD t 51), .ref (kD t 52), .int (kI t 49 8), .ref (kD t 53), .ref (kD t 54), .int (kI t 49 11), .ref (kD t 55), .ref (kD t 56), .ref (kD t 57), .int (kI t 49 15), zz_rv (kP t 49 16), .int (kI t 49 17), .int (kI t 49 18)] 10 (.ref (kD t 111)))) := rfl
theorem kpi_49_11 (x : Int32) : kVo (jI t 49 11 x) 49 = some (.inr (3, List.set [.ref 42, .ref 45, .ref 48, .ref 58, .ref 59, .ref (kD t 50), .ref (kD t 51), .ref (kD t 52), .int (kI t 49 8), .ref (kD t 53), .ref (kD t 54), .int (kI t 49 11), .ref (kD t 55), .ref (kD t 56), .ref (kD t 57), .int (kI t 49 15), zz_rv (kP t 49 16), .int (kI t 49 17), .int (kI t 49 18)] 11 (.int x))) := rfl
theorem kpa_49_12 : kVo (jMv t 55) 49 = some (.inr (3, List.set [.ref 42, .ref 45, .ref 48, .ref 58, .ref 59, .ref (kD t 50), .ref (kD t 51), .ref (kD t 52), .int (kI t 49 8), .ref (kD t 53), .ref (kD t 54), .int (kI t 49 11), .ref (kD t 55), .ref (kD t 56), .ref (kD t 57), .int (kI t 49 15), zz_rv (kP t 49 16), .int (kI t 49 17), .int (kI t 49 18)] 12 (.ref (kD t 111)))) := rfl
theorem kpa_49_13 : kVo (jMv t 56) 49 = some (.inr (3, List.set [.ref 42, .ref 45, .ref 48, .ref 58, .ref 59, .ref (kD t 50), .ref (kD t 51), .ref (kD t 52), .int (kI t 49 8), .ref (kD t 53), .ref (kD t 54), .int (kI t 49 11), .ref (kD t 55), .ref (kD t 56), .ref (kD t 57), .int (kI t 49 15), zz_rv (kP t 49 16), .int (kI t 49 17), .int (kI t 49 18)] 13 (.ref (kD t 111)))) := rfl
theorem kpa_49_14 : kVo (jMv t 57) 49 = some (.inr (3, List.set [.ref 42, .ref 45, .ref 48, .ref 58, .ref 59, .ref (kD t 50), .ref (kD t 51), .ref (kD t 52), .int (kI t 49 8), .ref (kD t 53), .ref (kD t 54), .int (kI t 49 11), .ref (kD t 55), .ref (kD t 56), .ref (kD t 57), .int (kI t 49 15), zz_rv (kP t 49 16), .int (kI t 49 17), .int (kI t 49 18)] 14 (.ref (kD t 111)))) := rfl
theorem kpi_49_15 (x : Int32) : kVo (jI t 49 15 x) 49 = some (.inr (3, List.set [.ref 42, .ref 45, .ref 48, .ref 58, .ref 59, .ref (kD t 50), .ref (kD t 51), .ref (kD t 52), .int (kI t 49 8), .ref (kD t 53), .ref (kD t 54), .int (kI t 49 11), .ref (kD t 55), .ref (kD t 56), .ref (kD t 57), .int (kI t 49 15), zz_rv (kP t 49 16), .int (kI t 49 17), .int (kI t 49 18)] 15 (.int x))) := rfl
theorem kpi_49_16 (x : Option Nat) : kVo (jP t 49 16 x) 49 = some (.inr (3, List.set [.ref 42, .ref 45, .ref 48, .ref 58, .ref 59, .ref (kD t 50), .ref (kD t 51), .ref (kD t 52), .int (kI t 49 8), .ref (kD t 53), .ref (kD t 54), .int (kI t 49 11), .ref (kD t 55), .ref (kD t 56), .ref (kD t 57), .int (kI t 49 15), zz_rv (kP t 49 16), .int (kI t 49 17), .int (kI t 49 18)] 16 (zz_rv x))) := rfl
theorem kpi_49_17 (x : Int32) : kVo (jI t 49 17 x) 49 = some (.inr (3, List.set [.ref 42, .ref 45, .ref 48, .ref 58, .ref 59, .ref (kD t 50), .ref (kD t 51), .ref (kD t 52), .int (kI t 49 8), .ref (kD t 53), .ref (kD t 54), .int (kI t 49 11), .ref (kD t 55), .ref (kD t 56), .ref (kD t 57), .int (kI t 49 15), zz_rv (kP t 49 16), .int (kI t 49 17), .int (kI t 49 18)] 17 (.int x))) := rfl
theorem kpi_49_18 (x : Int32) : kVo (jI t 49 18 x) 49 = some (.inr (3, List.set [.ref 42, .ref 45, .ref 48, .ref 58, .ref 59, .ref (kD t 50), .ref (kD t 51), .ref (kD t 52), .int (kI t 49 8), .ref (kD t 53), .ref (kD t 54), .int (kI t 49 11), .ref (kD t 55), .ref (kD t 56), .ref (kD t 57), .int (kI t 49 15), zz_rv (kP t 49 16), .int (kI t 49 17), .int (kI t 49 18)] 18 (.int x))) := rfl
theorem kpi_58_1 (x : Int32) : kVo (jI t 58 1 x) 58 = some (.inr (8, List.set [.ref 42, .int (kI t 58 1)] 1 (.int x))) := rfl
theorem kpa_59_1 : kVo (jMv t 60) 59 = some (.inr (1, List.set [.ref 42, .ref (kD t 60)] 1 (.ref (kD t 111)))) := rfl
theorem kpa_P_0 {q : Nat} (hq : q = 12 ∨ q = 21) : kVo (jMv t (q + 1)) q = some (.inr (6, List.set [.ref (kD t (q + 1)), .ref (kD t (q + 2)), .ref (kD t (q + 3)), .int (kI t q 3), .int (kI t q 4), .ref (kD t (q + 4)), .ref (kD t (q + 5)), .ref (kD t (q + 6)), .ref (kD t (q + 7)), .ref (kD t (q + 8))] 0 (.ref (kD t 111)))) := by rcases hq with rfl | rfl <;> rfl
theorem kpa_P_1 {q : Nat} (hq : q = 12 ∨ q = 21) : kVo (jMv t (q + 2)) q = some (.inr (6, List.set [.ref (kD t (q + 1)), .ref (kD t (q + 2)), .ref (kD t (q + 3)), .int (kI t q 3), .int (kI t q 4), .ref (kD t (q + 4)), .ref (kD t (q + 5)), .ref (kD t (q + 6)), .ref (kD t (q + 7)), .ref (kD t (q + 8))] 1 (.ref (kD t 111)))) := by rcases hq with rfl | rfl <;> rfl
theorem kpa_P_2 {q : Nat} (hq : q = 12 ∨ q = 21) : kVo (jMv t (q + 3)) q = some (.inr (6, List.set [.ref (kD t (q + 1)), .ref (kD t (q + 2)), .ref (kD t (q + 3)), .int (kI t q 3), .int (kI t q 4), .ref (kD t (q + 4)), .ref (kD t (q + 5)), .ref (kD t (q + 6)), .ref (kD t (q + 7)), .ref (kD t (q + 8))] 2 (.ref (kD t 111)))) := by rcases hq with rfl | rfl <;> rfl
theorem kpi_P_3 {q : Nat} (hq : q = 12 ∨ q = 21) (x : Int32) : kVo (jI t q 3 x) q = some (.inr (6, List.set [.ref (kD t (q + 1)), .ref (kD t (q + 2)), .ref (kD t (q + 3)), .int (kI t q 3), .int (kI t q 4), .ref (kD t (q + 4)), .ref (kD t (q + 5)), .ref (kD t (q + 6)), .ref (kD t (q + 7)), .ref (kD t (q + 8))] 3 (.int x))) := by rcases hq with rfl | rfl <;> rfl
theorem kpi_P_4 {q : Nat} (hq : q = 12 ∨ q = 21) (x : Int32) : kVo (jI t q 4 x) q = some (.inr (6, List.set [.ref (kD t (q + 1)), .ref (kD t (q + 2)), .ref (kD t (q + 3)), .int (kI t q 3), .int (kI t q 4), .ref (kD t (q + 4)), .ref (kD t (q + 5)), .ref (kD t (q + 6)), .ref (kD t (q + 7)), .ref (kD t (q + 8))] 4 (.int x))) := by rcases hq with rfl | rfl <;> rfl
theorem kpa_P_5 {q : Nat} (hq : q = 12 ∨ q = 21) : kVo (jMv t (q + 4)) q = some (.inr (6, List.set [.ref (kD t (q + 1)), .ref (kD t (q + 2)), .ref (kD t (q + 3)), .int (kI t q 3), .int (kI t q 4), .ref (kD t (q + 4)), .ref (kD t (q + 5)), .ref (kD t (q + 6)), .ref (kD t (q + 7)), .ref (kD t (q + 8))] 5 (.ref (kD t 111)))) := by rcases hq with rfl | rfl <;> rfl
theorem kpa_P_6 {q : Nat} (hq : q = 12 ∨ q = 21) : kVo (jMv t (q + 5)) q = some (.inr (6, List.set [.ref (kD t (q + 1)), .ref (kD t (q + 2)), .ref (kD t (q + 3)), .int (kI t q 3), .int (kI t q 4), .ref (kD t (q + 4)), .ref (kD t (q + 5)), .ref (kD t (q + 6)), .ref (kD t (q + 7)), .ref (kD t (q + 8))] 6 (.ref (kD t 111)))) := by rcases hq with rfl | rfl <;> rfl
theorem kpa_P_7 {q : Nat} (hq : q = 12 ∨ q = 21) : kVo (jMv t (q + 6)) q = some (.inr (6, List.set [.ref (kD t (q + 1)), .ref (kD t (q + 2)), .ref (kD t (q + 3)), .int (kI t q 3), .int (kI t q 4), .ref (kD t (q + 4)), .ref (kD t (q + 5)), .ref (kD t (q + 6)), .ref (kD t (q + 7)), .ref (kD t (q + 8))] 7 (.ref (kD t 111)))) := by rcases hq with rfl | rfl <;> rfl
theorem kpa_P_8 {q : Nat} (hq : q = 12 ∨ q = 21) : kVo (jMv t (q + 7)) q = some (.inr (6, List.set [.ref (kD t (q + 1)), .ref (kD t (q + 2)), .ref (kD t (q + 3)), .int (kI t q 3), .int (kI t q 4), .ref (kD t (q + 4)), .ref (kD t (q + 5)), .ref (kD t (q + 6)), .ref (kD t (q + 7)), .ref (kD t (q + 8))] 8 (.ref (kD t 111)))) := by rcases hq with rfl | rfl <;> rfl
theorem kpa_P_9 {q : Nat} (hq : q = 12 ∨ q = 21) : kVo (jMv t (q + 8)) q = some (.inr (6, List.set [.ref (kD t (q + 1)), .ref (kD t (q + 2)), .ref (kD t (q + 3)), .int (kI t q 3), .int (kI t q 4), .ref (kD t (q + 4)), .ref (kD t (q + 5)), .ref (kD t (q + 6)), .ref (kD t (q + 7)), .ref (kD t (q + 8))] 9 (.ref (kD t 111)))) := by rcases hq with rfl | rfl <;> rfl
end KO
/-- whose field an array is -/
def kOwn (k : Nat) : Nat := match k with
  | 1 => 0
  | 4 => 3
  | 5 => 3
  | 6 => 3
  | 7 => 2
  | 8 => 2
  | 9 => 2
  | 10 => 2
  | 11 => 2
  | 13 => 12
  | 14 => 12
  | 15 => 12
  | 16 => 12
  | 17 => 12
  | 18 => 12
  | 19 => 12
  | 20 => 12
  | 22 => 21
  | 23 => 21
  | 24 => 21
  | 25 => 21
  | 26 => 21
  | 27 => 21
  | 28 => 21
  | 29 => 21
  | 41 => 0
  | 43 => 42
  | 44 => 42
  | 46 => 45
  | 47 => 45
  | 50 => 49
  | 51 => 49
  | 52 => 49
  | 53 => 49
  | 54 => 49
  | 55 => 49
  | 56 => 49
  | 57 => 49
  | 60 => 59
  | _ => 1000000
theorem kVo_mv {t : cS} {k o k1 : Nat} (hk : kOwn k = o) (hne : k1 ≠ o) : kVo (jMv t k) k1 = kVo t k1 := by
  have e : ∀ j, kOwn j = k1 → kD (jMv t k) j = kD t j := fun j hj => if_neg (fun q => hne (by rw [← hj, q, hk]))
  unfold kVo
  split
  · (rw [e 1 rfl, e 41 rfl]) <;> rfl
  · (rw [e 7 rfl, e 8 rfl, e 9 rfl, e 10 rfl, e 11 rfl]) <;> rfl
  · (rw [e 4 rfl, e 5 rfl, e 6 rfl]) <;> rfl
  · (rw [e 43 rfl, e 44 rfl]) <;> rfl
  · (rw [e 46 rfl, e 47 rfl]) <;> rfl
  · rfl
  · (rw [e 50 rfl, e 51 rfl, e 52 rfl, e 53 rfl, e 54 rfl, e 55 rfl, e 56 rfl, e 57 rfl]) <;> rfl
  · rfl
  · (rw [e 60 rfl]) <;> rfl
  · (rw [e 13 rfl, e 14 rfl, e 15 rfl, e 16 rfl, e 17 rfl, e 18 rfl, e 19 rfl, e 20 rfl]) <;> rfl
  · (rw [e 22 rfl, e 23 rfl, e 24 rfl, e 25 rfl, e 26 rfl, e 27 rfl, e 28 rfl, e 29 rfl]) <;> rfl
  · rfl
theorem kVo_D {t t1 : cS} {k1 : Nat} (eI : ∀ k f, k < 111 → kI t1 k f = kI t k f) (eL : kL t1 = kL t) (eP : kP t1 = kP t) (e : ∀ j, j < 111 → kD t1 j = kD t j) : kVo t1 k1 = kVo t k1 := by
  unfold kVo
  rw [eL, eP]
  split
  · rw [e 1 (by decide), e 41 (by decide), eI 0 1 (by decide), eI 0 5 (by decide), eI 0 6 (by decide), eI 0 9 (by decide)]
  · rw [e 7 (by decide), e 8 (by decide), e 9 (by decide), e 10 (by decide), e 11 (by decide), eI 2 2 (by decide), eI 2 4 (by decide), eI 2 9 (by decide), eI 2 10 (by decide), eI 2 11 (by decide)]
  · rw [e 4 (by decide), e 5 (by decide), e 6 (by decide), eI 3 3 (by decide), eI 3 4 (by decide), eI 3 5 (by decide), eI 3 6 (by decide)]
  · rw [e 43 (by decide), e 44 (by decide), eI 42 1 (by decide), eI 42 3 (by decide)]
  · rw [e 46 (by decide), e 47 (by decide), eI 45 1 (by decide)]
  · rw [eI 48 0 (by decide), eI 48 1 (by decide), eI 48 2 (by decide), eI 48 3 (by decide), eI 48 4 (by decide), eI 48 5 (by decide), eI 48 6 (by decide), eI 48 7 (by decide), eI 48 8 (by decide)]
  · rw [e 50 (by decide), e 51 (by decide), e 52 (by decide), e 53 (by decide), e 54 (by decide), e 55 (by decide), e 56 (by decide), e 57 (by decide), eI 49 8 (by decide), eI 49 11 (by decide), eI 49 15 (by decide), eI 49 17 (by decide), eI 49 18 (by decide)]
  · rw [eI 58 1 (by decide)]
  · rw [e 60 (by decide)]
  · rw [e 13 (by decide), e 14 (by decide), e 15 (by decide), e 16 (by decide), e 17 (by decide), e 18 (by decide), e 19 (by decide), e 20 (by decide), eI 12 3 (by decide), eI 12 4 (by decide)]
  · rw [e 22 (by decide), e 23 (by decide), e 24 (by decide), e 25 (by decide), e 26 (by decide), e 27 (by decide), e 28 (by decide), e 29 (by decide), eI 21 3 (by decide), eI 21 4 (by decide)]
  · rfl
section KR
variable {h h' : zz_H} {t t' : cS} {s : mS} {X : Nat → Option zz_C}
theorem kR.lt (hR : kR h t s) {k : Nat} {c : zz_C} (e : h[k]? = some c) : k < zz_out := by
  obtain ⟨own, h1, h2, h3, h4, h5, h6, h7⟩ := hR
  have := (List.getElem?_eq_some_iff.mp e).1
  omega
theorem kR.atO (hR : kR h t s) {k : Nat} {c : zz_C} (e : kVo t k = some c) : zz_at h k = some c := by
  have hR' := hR
  obtain ⟨own, h1, _⟩ := hR
  have := (h1 k c e).1
  unfold zz_at
  rw [if_pos (hR'.lt this)]
  exact this
theorem kR.atA (hR : kR h t s) {k x : Nat} {c : zz_C} (e : kVa t k = some c) (hx : kD t k = x) : zz_at h x = some c := by
  subst hx
  have hR' := hR
  obtain ⟨own, h1, h2, _⟩ := hR
  have := (h2 k c e).1
  unfold zz_at
  rw [if_pos (hR'.lt this)]
  exact this
theorem kR.rdA (hR : kR h t s) {k x : Nat} {c : zz_C} (e : kVa t k = some c) (hx : kD t k = x) : zz_rd X h x = some c := by
  have := hR.atA e hx
  obtain ⟨g1, g2⟩ := zz_at_ok this
  unfold zz_rd
  rw [if_pos g1]
  exact g2
theorem kR.atS (hR : kR h t s) {k : Nat} (e : kH t k = true) : zz_at h k = some (kVs t k) := by
  have hR' := hR
  obtain ⟨own, h1, h2, h3, _⟩ := hR
  have := (h3 k e).1
  unfold zz_at
  rw [if_pos (hR'.lt this)]
  exact this
theorem kR.len (hR : kR h t s) : h.length = kN t := by
  obtain ⟨own, h1, h2, h3, h4, h5, _⟩ := hR
  exact h5
/-! fields -/
theorem kR.gv (hR : kR h t s) {k ci f : Nat} {fs : List Value} {v : Value} (e : kVo t k = some (.inr (ci, fs))) (hc : ci < 20) (hf : fs[f]? = some v) : hgv X h k ci f = some v := by
  unfold hgv
  rw [if_pos hc, hR.atO e]
  dsimp only
  rw [if_pos rfl]
  exact hf
theorem kR.gvS (hR : kR h t s) {k f : Nat} {v : Value} (e : kH t k = true) (hf : ([.ref (kD t (2000000 + 20 * k + 1)), .ref (kD t (2000000 + 20 * k + 10)), .int (kI t (3000000 + k) 2)] : List Value)[f]? = some v) : hgv X h k 7 f = some v := by
  unfold hgv
  rw [if_pos (by decide), hR.atS e]
  unfold kVs
  dsimp only
  rw [if_pos rfl]
  exact hf
/-! the receiver -/
theorem kR.clO (hR : kR h t s) {k ci : Nat} {fs : List Value} {nn : Int} (e : kVo t k = some (.inr (ci, fs))) (hc : ci < 20) (hn : (ci : Int) = nn ∨ (ci : Int) + 1000 = nn ∨ (ci : Int) + 2000 = nn) : hcl X h k nn = true := by
  have h1 := hR.atO e
  obtain ⟨g1, g2⟩ := zz_at_ok h1
  unfold hcl zz_rd
  rw [if_pos g1, g2]
  dsimp only
  exact decide_eq_true ⟨⟨fun _ => hc, fun _ => g1⟩, hn⟩
theorem kR.clS (hR : kR h t s) {k : Nat} {nn : Int} (e : kH t k = true) (hn : (7 : Int) = nn ∨ (7 : Int) + 1000 = nn ∨ (7 : Int) + 2000 = nn) : hcl X h k nn = true := by
  have h1 := hR.atS e
  obtain ⟨g1, g2⟩ := zz_at_ok h1
  unfold hcl zz_rd
  rw [if_pos g1, g2]
  unfold kVs
  dsimp only
  exact decide_eq_true ⟨⟨fun _ => by decide, fun _ => g1⟩, hn⟩
/-! a cell is written -/
theorem kR.setO (hR : kR h t s) {k0 : Nat} {c0 c' : zz_C} (h0 : kVo t k0 = some c0) (g1 : ∀ k, k ≠ k0 → kVo t' k = kVo t k) (g2 : kVo t' k0 = some c') (g3 : ∀ k, kVa t' k = kVa t k) (gD : kD t' = kD t) (gH : kH t' = kH t) (gs : ∀ k, kVs t' k = kVs t k) (gN : kN t' = kN t) (gQ : kQ t' = kQ t) (gz : zz_sz zt_nf c' = zz_sz zt_nf c0) : kR (h.set k0 c') t' s := by
  obtain ⟨own, h1, h2, h3, h4, h5, h6, h7⟩ := hR
  obtain ⟨e0, o0⟩ := h1 k0 c0 h0
  have hl := (List.getElem?_eq_some_iff.mp e0).1
  have keep : ∀ x, own x ≠ own k0 → (h.set k0 c')[x]? = h[x]? := fun x hx => List.getElem?_set_ne (fun e => hx (by rw [e]))
  refine ⟨own, ?_, ?_, ?_, ?_, ?_, ?_, ?_⟩
  · intro k c hk
    by_cases hkk : k = k0
    · subst hkk
      rw [g2] at hk
      cases hk
      exact ⟨List.getElem?_set_self hl, o0⟩
    · rw [g1 k hkk] at hk
      obtain ⟨e1, o1⟩ := h1 k c hk
      exact ⟨(keep k (by omega)).trans e1, o1⟩
  · intro k c hk
    rw [g3] at hk
    rw [gD]
    obtain ⟨e1, o1⟩ := h2 k c hk
    exact ⟨(keep _ (by omega)).trans e1, o1⟩
  · intro k hk
    rw [gH] at hk
    obtain ⟨e1, o1⟩ := h3 k hk
    exact ⟨(keep _ (by omega)).trans (by rw [gs]; exact e1), o1⟩
  · intro j hj
    obtain ⟨e1, o1⟩ := h4 j hj
    exact ⟨(keep _ (by omega)).trans e1, o1⟩
  · rw [List.length_set, gN]
    exact h5
  · rw [zz_sl_set e0 gz, gQ]
    exact h6
  · rw [gN]
    exact h7
theorem kR.setA (hR : kR h t s) {k0 : Nat} {c0 c' : zz_C} (h0 : kVa t k0 = some c0) (g1 : ∀ k, kVo t' k = kVo t k) (g2 : ∀ k, k ≠ k0 → kVa t' k = kVa t k) (g3 : kVa t' k0 = some c') (gD : kD t' = kD t) (gH : kH t' = kH t) (gs : ∀ k, kVs t' k = kVs t k) (gN : kN t' = kN t) (gQ : kQ t' = kQ t) (gz : zz_sz zt_nf c' = zz_sz zt_nf c0) : kR (h.set (kD t k0) c') t' s := by
  obtain ⟨own, h1, h2, h3, h4, h5, h6, h7⟩ := hR
  obtain ⟨e0, o0⟩ := h2 k0 c0 h0
  have hl := (List.getElem?_eq_some_iff.mp e0).1
  have keep : ∀ x, own x ≠ own (kD t k0) → (h.set (kD t k0) c')[x]? = h[x]? := fun x hx => List.getElem?_set_ne (fun e => hx (by rw [e]))
  refine ⟨own, ?_, ?_, ?_, ?_, ?_, ?_, ?_⟩
  · intro k c hk
    rw [g1] at hk
    obtain ⟨e1, o1⟩ := h1 k c hk
    exact ⟨(keep k (by omega)).trans e1, o1⟩
  · intro k c hk
    rw [gD]
    by_cases hkk : k = k0
    · subst hkk
      rw [g3] at hk
      cases hk
      exact ⟨List.getElem?_set_self hl, o0⟩
    · rw [g2 k hkk] at hk
      obtain ⟨e1, o1⟩ := h2 k c hk
      exact ⟨(keep _ (by omega)).trans e1, o1⟩
  · intro k hk
    rw [gH] at hk
    obtain ⟨e1, o1⟩ := h3 k hk
    exact ⟨(keep _ (by omega)).trans (by rw [gs]; exact e1), o1⟩
  · intro j hj
    obtain ⟨e1, o1⟩ := h4 j hj
    exact ⟨(keep _ (by omega)).trans e1, o1⟩
  · rw [List.length_set, gN]
    exact h5
  · rw [zz_sl_set e0 gz, gQ]
    exact h6
  · rw [gN]
    exact h7
theorem kR.setS (hR : kR h t s) {k0 : Nat} (h0 : kH t k0 = true) (g1 : ∀ k, kVo t' k = kVo t k) (g3 : ∀ k, kVa t' k = kVa t k) (gD : kD t' = kD t) (gH : kH t' = kH t) (gs : ∀ k, k ≠ k0 → kVs t' k = kVs t k) (gN : kN t' = kN t) (gQ : kQ t' = kQ t) : kR (h.set k0 (kVs t' k0)) t' s := by
  obtain ⟨own, h1, h2, h3, h4, h5, h6, h7⟩ := hR
  obtain ⟨e0, o0⟩ := h3 k0 h0
  have hl := (List.getElem?_eq_some_iff.mp e0).1
  have keep : ∀ x, own x ≠ own k0 → (h.set k0 (kVs t' k0))[x]? = h[x]? := fun x hx => List.getElem?_set_ne (fun e => hx (by rw [e]))
  refine ⟨own, ?_, ?_, ?_, ?_, ?_, ?_, ?_⟩
  · intro k c hk
    rw [g1] at hk
    obtain ⟨e1, o1⟩ := h1 k c hk
    exact ⟨(keep k (by omega)).trans e1, o1⟩
  · intro k c hk
    rw [g3] at hk
    rw [gD]
    obtain ⟨e1, o1⟩ := h2 k c hk
    exact ⟨(keep _ (by omega)).trans e1, o1⟩
  · intro k hk
    rw [gH] at hk
    obtain ⟨e1, o1⟩ := h3 k hk
    by_cases hkk : k = k0
    · subst hkk
      exact ⟨List.getElem?_set_self hl, o0⟩
    · exact ⟨(keep _ (by omega)).trans (by rw [gs k hkk]; exact e1), o1⟩
  · intro j hj
    obtain ⟨e1, o1⟩ := h4 j hj
    exact ⟨(keep _ (by omega)).trans e1, o1⟩
  · rw [List.length_set, gN]
    exact h5
  · rw [zz_sl_set e0 (show zz_sz zt_nf (kVs t' k0) = zz_sz zt_nf (kVs t k0) from rfl), gQ]
    exact h6
  · rw [gN]
    exact h7
/-! what the states' changes leave -/
theorem kVo_big {k : Nat} (hk : 111 ≤ k) : kVo t k = none := by
  unfold kVo
  split <;> first | rfl | (exfalso; omega)
theorem kVo_jI {k0 f k : Nat} {x : Int32} (hk : k ≠ k0) : kVo (jI t k0 f x) k = kVo t k := by
  have e : ∀ g, kI (jI t k0 f x) k g = kI t k g := fun g => if_neg (fun q => hk q.1)
  unfold kVo
  split <;> first | rfl | (simp only [e]; rfl) | (simp only [e]; done)
theorem kVo_jL {k0 f k : Nat} {x : Int64} (hk : k ≠ k0) : kVo (jL t k0 f x) k = kVo t k := by
  have e : ∀ g, kL (jL t k0 f x) k g = kL t k g := fun g => if_neg (fun q => hk q.1)
  unfold kVo
  split <;> first | rfl | (simp only [e]; rfl) | (simp only [e]; done)
theorem kVo_jP {k0 f k : Nat} {x : Option Nat} (hk : k ≠ k0) : kVo (jP t k0 f x) k = kVo t k := by
  have e : ∀ g, kP (jP t k0 f x) k g = kP t k g := fun g => if_neg (fun q => hk q.1)
  unfold kVo
  split <;> first | rfl | (simp only [e]; rfl) | (simp only [e]; done)
theorem kVs_jI {k0 f k : Nat} {x : Int32} (hk : 3000000 + k ≠ k0) : kVs (jI t k0 f x) k = kVs t k := by
  have e : kI (jI t k0 f x) (3000000 + k) 2 = kI t (3000000 + k) 2 := if_neg (fun q => hk q.1)
  unfold kVs
  rw [e]
  rfl
theorem kVa0_jA {k0 k : Nat} {g : Nat → Int32} (hk : k ≠ k0) : kVa0 (jA t k0 g) k = kVa0 t k := by
  have e : kA (jA t k0 g) k = kA t k := if_neg hk
  unfold kVa0
  split <;> first | rfl | (unfold kint; rw [e]; rfl) | (unfold kint; rw [e]; done)
theorem kVa_jA {k0 k : Nat} {g : Nat → Int32} (hk : k ≠ k0) : kVa (jA t k0 g) k = kVa t k := by
  have e : kA (jA t k0 g) k = kA t k := if_neg hk
  have e1 : kVaS (jA t k0 g) k ((k - 2000000) % 20) = kVaS t k ((k - 2000000) % 20) := by
    unfold kVaS kint
    rw [e]
    rfl
  unfold kVa
  rw [kVa0_jA hk, e1]
  rfl
theorem kVa0_jB {k0 k : Nat} {g : Nat → Int64} (hk : k ≠ k0) : kVa0 (jB t k0 g) k = kVa0 t k := by
  have e : kB (jB t k0 g) k = kB t k := if_neg hk
  unfold kVa0
  split <;> first | rfl | (unfold klng; rw [e]; rfl) | (unfold klng; rw [e]; done)
theorem kVa_jB {k0 k : Nat} {g : Nat → Int64} (hk : k ≠ k0) : kVa (jB t k0 g) k = kVa t k := by
  unfold kVa
  rw [kVa0_jB hk]
  rfl
end KR
