/-! ===== the reference's cells, as one state (printed by program) ===== -/
/-- int fields, long fields, int and byte arrays, long arrays: by the field's number -/
abbrev mS : Type := (Nat → Int32) × (Nat → Int64) × (Nat → Nat → Int32) × (Nat → Nat → Int64)
def mF (s : mS) : List Value := [.ref 62, .ref 63, .ref 64, .int (s.1 3), .int (s.1 4), .int (s.1 5), .int (s.1 6), .long (s.2.1 7), .int (s.1 8), .int (s.1 9), .int (s.1 10), .int (s.1 11), .int (s.1 12), .int (s.1 13), .int (s.1 14), .int (s.1 15), .ref 65, .ref 66, .ref 67, .ref 68, .ref 69, .ref 70, .int (s.1 22), .ref 71, .ref 72, .ref 73, .ref 74, .ref 75, .int (s.1 28), .int (s.1 29), .ref 76, .ref 77, .ref 78, .ref 79, .ref 80, .ref 81, .ref 82, .int (s.1 37), .ref 83, .ref 84, .ref 85, .ref 86, .ref 87, .ref 88, .int (s.1 44), .int (s.1 45), .int (s.1 46), .ref 89, .int (s.1 48), .ref 90, .ref 91, .int (s.1 51), .ref 92, .ref 93, .ref 94, .int (s.1 55), .int (s.1 56), .int (s.1 57), .ref 95, .ref 96, .int (s.1 60), .int (s.1 61), .int (s.1 62), .int (s.1 63), .int (s.1 64), .int (s.1 65), .int (s.1 66), .int (s.1 67), .int (s.1 68), .int (s.1 69), .int (s.1 70), .ref 97, .ref 98, .int (s.1 73), .ref 99, .ref 100, .ref 101, .ref 102, .ref 103, .int (s.1 79), .ref 104, .ref 105, .ref 106, .ref 107, .ref 108, .ref 109, .ref 110, .int (s.1 87), .int (s.1 88), .long (s.2.1 89)]
def mC (s : mS) : List zz_C := [.inr (13, mF s),
  .inl (1, 41, .inr (.inl (s.2.2.2 0))),
  .inl (0, 30, .inl (s.2.2.1 1)),
  .inl (2, 1620, .inl (s.2.2.1 2)),
  .inl (1, 24, .inr (.inl (s.2.2.2 16))),
  .inl (0, 24, .inl (s.2.2.1 17)),
  .inl (0, 24, .inl (s.2.2.1 18)),
  .inl (0, 24, .inl (s.2.2.1 19)),
  .inl (0, 24, .inl (s.2.2.1 20)),
  .inl (1, 14, .inr (.inl (s.2.2.2 21))),
  .inl (0, 8000, .inl (s.2.2.1 23)),
  .inl (0, 8000, .inl (s.2.2.1 24)),
  .inl (0, 8000, .inl (s.2.2.1 25)),
  .inl (0, 8000, .inl (s.2.2.1 26)),
  .inl (0, 8000, .inl (s.2.2.1 27)),
  .inl (0, 800, .inl (s.2.2.1 30)),
  .inl (0, 800, .inl (s.2.2.1 31)),
  .inl (0, 800, .inl (s.2.2.1 32)),
  .inl (1, 800, .inr (.inl (s.2.2.2 33))),
  .inl (0, 12, .inl (s.2.2.1 34)),
  .inl (0, 12, .inl (s.2.2.1 35)),
  .inl (0, 12, .inl (s.2.2.1 36)),
  .inl (0, 80, .inl (s.2.2.1 38)),
  .inl (0, 80, .inl (s.2.2.1 39)),
  .inl (0, 80, .inl (s.2.2.1 40)),
  .inl (0, 80, .inl (s.2.2.1 41)),
  .inl (1, 80, .inr (.inl (s.2.2.2 42))),
  .inl (0, 80, .inl (s.2.2.1 43)),
  .inl (0, 166300, .inl (s.2.2.1 47)),
  .inl (0, 9000, .inl (s.2.2.1 49)),
  .inl (0, 9000, .inl (s.2.2.1 50)),
  .inl (0, 8, .inl (s.2.2.1 52)),
  .inl (0, 8, .inl (s.2.2.1 53)),
  .inl (0, 8, .inl (s.2.2.1 54)),
  .inl (0, 700, .inl (s.2.2.1 58)),
  .inl (0, 700, .inl (s.2.2.1 59)),
  .inl (0, 8, .inl (s.2.2.1 71)),
  .inl (0, 8, .inl (s.2.2.1 72)),
  .inl (0, 10, .inl (s.2.2.1 74)),
  .inl (0, 10, .inl (s.2.2.1 75)),
  .inl (0, 10, .inl (s.2.2.1 76)),
  .inl (0, 140, .inl (s.2.2.1 77)),
  .inl (0, 140, .inl (s.2.2.1 78)),
  .inl (0, 400, .inl (s.2.2.1 80)),
  .inl (0, 400, .inl (s.2.2.1 81)),
  .inl (0, 400, .inl (s.2.2.1 82)),
  .inl (0, 400, .inl (s.2.2.1 83)),
  .inl (0, 400, .inl (s.2.2.1 84)),
  .inl (0, 400, .inl (s.2.2.1 85)),
  .inl (2, 600, .inl (s.2.2.1 86))]
def mI (s : mS) (k : Nat) (x : Int32) : mS := (fun q => if q = k then x else s.1 q, s.2.1, s.2.2.1, s.2.2.2)
def mL (s : mS) (k : Nat) (x : Int64) : mS := (s.1, fun q => if q = k then x else s.2.1 q, s.2.2.1, s.2.2.2)
def mA (s : mS) (k : Nat) (f : Nat → Int32) : mS := (s.1, s.2.1, fun q => if q = k then f else s.2.2.1 q, s.2.2.2)
def mB (s : mS) (k : Nat) (f : Nat → Int64) : mS := (s.1, s.2.1, s.2.2.1, fun q => if q = k then f else s.2.2.2 q)
theorem mF_3 (s : mS) (x : Int32) : (mC s).set 0 (.inr (13, (mF s).set 3 (.int x))) = mC (mI s 3 x) := by rfl
theorem mF_4 (s : mS) (x : Int32) : (mC s).set 0 (.inr (13, (mF s).set 4 (.int x))) = mC (mI s 4 x) := by rfl
theorem mF_5 (s : mS) (x : Int32) : (mC s).set 0 (.inr (13, (mF s).set 5 (.int x))) = mC (mI s 5 x) := by rfl
theorem mF_6 (s : mS) (x : Int32) : (mC s).set 0 (.inr (13, (mF s).set 6 (.int x))) = mC (mI s 6 x) := by rfl
theorem mF_7 (s : mS) (x : Int64) : (mC s).set 0 (.inr (13, (mF s).set 7 (.long x))) = mC (mL s 7 x) := by rfl
theorem mF_8 (s : mS) (x : Int32) : (mC s).set 0 (.inr (13, (mF s).set 8 (.int x))) = mC (mI s 8 x) := by rfl
theorem mF_9 (s : mS) (x : Int32) : (mC s).set 0 (.inr (13, (mF s).set 9 (.int x))) = mC (mI s 9 x) := by rfl
theorem mF_10 (s : mS) (x : Int32) : (mC s).set 0 (.inr (13, (mF s).set 10 (.int x))) = mC (mI s 10 x) := by rfl
theorem mF_11 (s : mS) (x : Int32) : (mC s).set 0 (.inr (13, (mF s).set 11 (.int x))) = mC (mI s 11 x) := by rfl
theorem mF_12 (s : mS) (x : Int32) : (mC s).set 0 (.inr (13, (mF s).set 12 (.int x))) = mC (mI s 12 x) := by rfl
theorem mF_13 (s : mS) (x : Int32) : (mC s).set 0 (.inr (13, (mF s).set 13 (.int x))) = mC (mI s 13 x) := by rfl
theorem mF_14 (s : mS) (x : Int32) : (mC s).set 0 (.inr (13, (mF s).set 14 (.int x))) = mC (mI s 14 x) := by rfl
theorem mF_15 (s : mS) (x : Int32) : (mC s).set 0 (.inr (13, (mF s).set 15 (.int x))) = mC (mI s 15 x) := by rfl
theorem mF_22 (s : mS) (x : Int32) : (mC s).set 0 (.inr (13, (mF s).set 22 (.int x))) = mC (mI s 22 x) := by rfl
theorem mF_28 (s : mS) (x : Int32) : (mC s).set 0 (.inr (13, (mF s).set 28 (.int x))) = mC (mI s 28 x) := by rfl
theorem mF_29 (s : mS) (x : Int32) : (mC s).set 0 (.inr (13, (mF s).set 29 (.int x))) = mC (mI s 29 x) := by rfl
theorem mF_37 (s : mS) (x : Int32) : (mC s).set 0 (.inr (13, (mF s).set 37 (.int x))) = mC (mI s 37 x) := by rfl
theorem mF_44 (s : mS) (x : Int32) : (mC s).set 0 (.inr (13, (mF s).set 44 (.int x))) = mC (mI s 44 x) := by rfl
theorem mF_45 (s : mS) (x : Int32) : (mC s).set 0 (.inr (13, (mF s).set 45 (.int x))) = mC (mI s 45 x) := by rfl
theorem mF_46 (s : mS) (x : Int32) : (mC s).set 0 (.inr (13, (mF s).set 46 (.int x))) = mC (mI s 46 x) := by rfl
theorem mF_48 (s : mS) (x : Int32) : (mC s).set 0 (.inr (13, (mF s).set 48 (.int x))) = mC (mI s 48 x) := by rfl
theorem mF_51 (s : mS) (x : Int32) : (mC s).set 0 (.inr (13, (mF s).set 51 (.int x))) = mC (mI s 51 x) := by rfl
theorem mF_55 (s : mS) (x : Int32) : (mC s).set 0 (.inr (13, (mF s).set 55 (.int x))) = mC (mI s 55 x) := by rfl
theorem mF_56 (s : mS) (x : Int32) : (mC s).set 0 (.inr (13, (mF s).set 56 (.int x))) = mC (mI s 56 x) := by rfl
theorem mF_57 (s : mS) (x : Int32) : (mC s).set 0 (.inr (13, (mF s).set 57 (.int x))) = mC (mI s 57 x) := by rfl
theorem mF_60 (s : mS) (x : Int32) : (mC s).set 0 (.inr (13, (mF s).set 60 (.int x))) = mC (mI s 60 x) := by rfl
theorem mF_61 (s : mS) (x : Int32) : (mC s).set 0 (.inr (13, (mF s).set 61 (.int x))) = mC (mI s 61 x) := by rfl
theorem mF_62 (s : mS) (x : Int32) : (mC s).set 0 (.inr (13, (mF s).set 62 (.int x))) = mC (mI s 62 x) := by rfl
theorem mF_63 (s : mS) (x : Int32) : (mC s).set 0 (.inr (13, (mF s).set 63 (.int x))) = mC (mI s 63 x) := by rfl
theorem mF_64 (s : mS) (x : Int32) : (mC s).set 0 (.inr (13, (mF s).set 64 (.int x))) = mC (mI s 64 x) := by rfl
theorem mF_65 (s : mS) (x : Int32) : (mC s).set 0 (.inr (13, (mF s).set 65 (.int x))) = mC (mI s 65 x) := by rfl
theorem mF_66 (s : mS) (x : Int32) : (mC s).set 0 (.inr (13, (mF s).set 66 (.int x))) = mC (mI s 66 x) := by rfl
theorem mF_67 (s : mS) (x : Int32) : (mC s).set 0 (.inr (13, (mF s).set 67 (.int x))) = mC (mI s 67 x) := by rfl
theorem mF_68 (s : mS) (x : Int32) : (mC s).set 0 (.inr (13, (mF s).set 68 (.int x))) = mC (mI s 68 x) := by rfl
theorem mF_69 (s : mS) (x : Int32) : (mC s).set 0 (.inr (13, (mF s).set 69 (.int x))) = mC (mI s 69 x) := by rfl
theorem mF_70 (s : mS) (x : Int32) : (mC s).set 0 (.inr (13, (mF s).set 70 (.int x))) = mC (mI s 70 x) := by rfl
theorem mF_73 (s : mS) (x : Int32) : (mC s).set 0 (.inr (13, (mF s).set 73 (.int x))) = mC (mI s 73 x) := by rfl
theorem mF_79 (s : mS) (x : Int32) : (mC s).set 0 (.inr (13, (mF s).set 79 (.int x))) = mC (mI s 79 x) := by rfl
theorem mF_87 (s : mS) (x : Int32) : (mC s).set 0 (.inr (13, (mF s).set 87 (.int x))) = mC (mI s 87 x) := by rfl
theorem mF_88 (s : mS) (x : Int32) : (mC s).set 0 (.inr (13, (mF s).set 88 (.int x))) = mC (mI s 88 x) := by rfl
theorem mF_89 (s : mS) (x : Int64) : (mC s).set 0 (.inr (13, (mF s).set 89 (.long x))) = mC (mL s 89 x) := by rfl
theorem mA_62 (s : mS) (f : Nat → Int64) : (mC s).set 1 (.inl (1, 41, .inr (.inl f))) = mC (mB s 0 f) := by rfl
theorem mA_63 (s : mS) (f : Nat → Int32) : (mC s).set 2 (.inl (0, 30, .inl f)) = mC (mA s 1 f) := by rfl
theorem mA_64 (s : mS) (f : Nat → Int32) : (mC s).set 3 (.inl (2, 1620, .inl f)) = mC (mA s 2 f) := by rfl
theorem mA_65 (s : mS) (f : Nat → Int64) : (mC s).set 4 (.inl (1, 24, .inr (.inl f))) = mC (mB s 16 f) := by rfl
theorem mA_66 (s : mS) (f : Nat → Int32) : (mC s).set 5 (.inl (0, 24, .inl f)) = mC (mA s 17 f) := by rfl
theorem mA_67 (s : mS) (f : Nat → Int32) : (mC s).set 6 (.inl (0, 24, .inl f)) = mC (mA s 18 f) := by rfl
theorem mA_68 (s : mS) (f : Nat → Int32) : (mC s).set 7 (.inl (0, 24, .inl f)) = mC (mA s 19 f) := by rfl
theorem mA_69 (s : mS) (f : Nat → Int32) : (mC s).set 8 (.inl (0, 24, .inl f)) = mC (mA s 20 f) := by rfl
theorem mA_70 (s : mS) (f : Nat → Int64) : (mC s).set 9 (.inl (1, 14, .inr (.inl f))) = mC (mB s 21 f) := by rfl
theorem mA_71 (s : mS) (f : Nat → Int32) : (mC s).set 10 (.inl (0, 8000, .inl f)) = mC (mA s 23 f) := by rfl
theorem mA_72 (s : mS) (f : Nat → Int32) : (mC s).set 11 (.inl (0, 8000, .inl f)) = mC (mA s 24 f) := by rfl
theorem mA_73 (s : mS) (f : Nat → Int32) : (mC s).set 12 (.inl (0, 8000, .inl f)) = mC (mA s 25 f) := by rfl
theorem mA_74 (s : mS) (f : Nat → Int32) : (mC s).set 13 (.inl (0, 8000, .inl f)) = mC (mA s 26 f) := by rfl
theorem mA_75 (s : mS) (f : Nat → Int32) : (mC s).set 14 (.inl (0, 8000, .inl f)) = mC (mA s 27 f) := by rfl
theorem mA_76 (s : mS) (f : Nat → Int32) : (mC s).set 15 (.inl (0, 800, .inl f)) = mC (mA s 30 f) := by rfl
theorem mA_77 (s : mS) (f : Nat → Int32) : (mC s).set 16 (.inl (0, 800, .inl f)) = mC (mA s 31 f) := by rfl
theorem mA_78 (s : mS) (f : Nat → Int32) : (mC s).set 17 (.inl (0, 800, .inl f)) = mC (mA s 32 f) := by rfl
theorem mA_79 (s : mS) (f : Nat → Int64) : (mC s).set 18 (.inl (1, 800, .inr (.inl f))) = mC (mB s 33 f) := by rfl
theorem mA_80 (s : mS) (f : Nat → Int32) : (mC s).set 19 (.inl (0, 12, .inl f)) = mC (mA s 34 f) := by rfl
theorem mA_81 (s : mS) (f : Nat → Int32) : (mC s).set 20 (.inl (0, 12, .inl f)) = mC (mA s 35 f) := by rfl
theorem mA_82 (s : mS) (f : Nat → Int32) : (mC s).set 21 (.inl (0, 12, .inl f)) = mC (mA s 36 f) := by rfl
theorem mA_83 (s : mS) (f : Nat → Int32) : (mC s).set 22 (.inl (0, 80, .inl f)) = mC (mA s 38 f) := by rfl
theorem mA_84 (s : mS) (f : Nat → Int32) : (mC s).set 23 (.inl (0, 80, .inl f)) = mC (mA s 39 f) := by rfl
theorem mA_85 (s : mS) (f : Nat → Int32) : (mC s).set 24 (.inl (0, 80, .inl f)) = mC (mA s 40 f) := by rfl
theorem mA_86 (s : mS) (f : Nat → Int32) : (mC s).set 25 (.inl (0, 80, .inl f)) = mC (mA s 41 f) := by rfl
theorem mA_87 (s : mS) (f : Nat → Int64) : (mC s).set 26 (.inl (1, 80, .inr (.inl f))) = mC (mB s 42 f) := by rfl
theorem mA_88 (s : mS) (f : Nat → Int32) : (mC s).set 27 (.inl (0, 80, .inl f)) = mC (mA s 43 f) := by rfl
theorem mA_89 (s : mS) (f : Nat → Int32) : (mC s).set 28 (.inl (0, 166300, .inl f)) = mC (mA s 47 f) := by rfl
theorem mA_90 (s : mS) (f : Nat → Int32) : (mC s).set 29 (.inl (0, 9000, .inl f)) = mC (mA s 49 f) := by rfl
theorem mA_91 (s : mS) (f : Nat → Int32) : (mC s).set 30 (.inl (0, 9000, .inl f)) = mC (mA s 50 f) := by rfl
theorem mA_92 (s : mS) (f : Nat → Int32) : (mC s).set 31 (.inl (0, 8, .inl f)) = mC (mA s 52 f) := by rfl
theorem mA_93 (s : mS) (f : Nat → Int32) : (mC s).set 32 (.inl (0, 8, .inl f)) = mC (mA s 53 f) := by rfl
theorem mA_94 (s : mS) (f : Nat → Int32) : (mC s).set 33 (.inl (0, 8, .inl f)) = mC (mA s 54 f) := by rfl
theorem mA_95 (s : mS) (f : Nat → Int32) : (mC s).set 34 (.inl (0, 700, .inl f)) = mC (mA s 58 f) := by rfl
theorem mA_96 (s : mS) (f : Nat → Int32) : (mC s).set 35 (.inl (0, 700, .inl f)) = mC (mA s 59 f) := by rfl
theorem mA_97 (s : mS) (f : Nat → Int32) : (mC s).set 36 (.inl (0, 8, .inl f)) = mC (mA s 71 f) := by rfl
theorem mA_98 (s : mS) (f : Nat → Int32) : (mC s).set 37 (.inl (0, 8, .inl f)) = mC (mA s 72 f) := by rfl
theorem mA_99 (s : mS) (f : Nat → Int32) : (mC s).set 38 (.inl (0, 10, .inl f)) = mC (mA s 74 f) := by rfl
theorem mA_100 (s : mS) (f : Nat → Int32) : (mC s).set 39 (.inl (0, 10, .inl f)) = mC (mA s 75 f) := by rfl
theorem mA_101 (s : mS) (f : Nat → Int32) : (mC s).set 40 (.inl (0, 10, .inl f)) = mC (mA s 76 f) := by rfl
theorem mA_102 (s : mS) (f : Nat → Int32) : (mC s).set 41 (.inl (0, 140, .inl f)) = mC (mA s 77 f) := by rfl
theorem mA_103 (s : mS) (f : Nat → Int32) : (mC s).set 42 (.inl (0, 140, .inl f)) = mC (mA s 78 f) := by rfl
theorem mA_104 (s : mS) (f : Nat → Int32) : (mC s).set 43 (.inl (0, 400, .inl f)) = mC (mA s 80 f) := by rfl
theorem mA_105 (s : mS) (f : Nat → Int32) : (mC s).set 44 (.inl (0, 400, .inl f)) = mC (mA s 81 f) := by rfl
theorem mA_106 (s : mS) (f : Nat → Int32) : (mC s).set 45 (.inl (0, 400, .inl f)) = mC (mA s 82 f) := by rfl
theorem mA_107 (s : mS) (f : Nat → Int32) : (mC s).set 46 (.inl (0, 400, .inl f)) = mC (mA s 83 f) := by rfl
theorem mA_108 (s : mS) (f : Nat → Int32) : (mC s).set 47 (.inl (0, 400, .inl f)) = mC (mA s 84 f) := by rfl
theorem mA_109 (s : mS) (f : Nat → Int32) : (mC s).set 48 (.inl (0, 400, .inl f)) = mC (mA s 85 f) := by rfl
theorem mA_110 (s : mS) (f : Nat → Int32) : (mC s).set 49 (.inl (2, 600, .inl f)) = mC (mA s 86 f) := by rfl
theorem mC_len (s : mS) : (mC s).length = 50 := rfl
/-- a heap with the reference's cells in this state -/
def mH (h : zz_H) (s : mS) : zz_H := h.take 61 ++ (mC s ++ h.drop 111)
section MH
variable {h : zz_H} {s : mS}
theorem mH_len (hh : 111 ≤ h.length) : (mH h s).length = h.length := by
  unfold mH
  rw [List.length_append, List.length_append, mC_len, List.length_take, List.length_drop]
  omega
theorem mH_at (hh : 111 ≤ h.length) {c j : Nat} (hj : j < 50) (hc : 61 + j = c) : zz_at (mH h s) c = (mC s)[j]? := by
  subst hc
  unfold zz_at mH
  rw [if_pos (by unfold zz_out; omega), List.getElem?_append_right (by rw [List.length_take]; omega), List.length_take, List.getElem?_append_left (by rw [mC_len]; omega)]
  congr 1
  omega
theorem mH_set (hh : 111 ≤ h.length) {c j : Nat} (hj : j < 50) (hc : 61 + j = c) {x : zz_C} {s' : mS} (e : (mC s).set j x = mC s') : (mH h s).set c x = mH h s' := by
  subst hc
  unfold mH
  rw [List.set_append_right _ _ (by rw [List.length_take]; omega), List.length_take, List.set_append_left _ _ (by rw [mC_len]; omega), ← e]
  congr 3
  omega
section MR
variable {P : Nat → Option zz_M} {fd : Nat → List Value} {X : Nat → Option zz_C} {d : Nat} {M : zz_M} {pc : Nat} {lv : List (Nat × Value)} {st : List Value} {Q : Option Value → zz_H → Prop}
theorem mE_g (hh : 111 ≤ h.length) (pc' : Nat) {k cp pc0 : Nat} {nn : Int} {v : Value} (hrow : zz_row M pc = some (pc0, .getfield cp, 3, 13, k, nn)) (hv : (mF s)[k]? = some v) (hp : pc + 3 = pc') (kk : zz_E P zt_tf fd X d M pc' lv (v :: st) (mH h s) Q) : zz_E P zt_tf fd X d M pc lv (.ref 61 :: st) (mH h s) Q :=
  zz_E.gf pc' hrow ((mH_at hh (j := 0) (by decide) rfl).trans rfl) hv hp kk
theorem mE_p (hh : 111 ≤ h.length) (pc' : Nat) {k cp pc0 : Nat} {nn : Int} {v : Value} {s' : mS} (hrow : zz_row M pc = some (pc0, .putfield cp, 3, 13, k, nn)) (hk : k < 90) (hf : zz_fit (zt_tf 13 k) v = true) (e : (mC s).set 0 (.inr (13, (mF s).set k v)) = mC s') (hp : pc + 3 = pc') (kk : zz_E P zt_tf fd X d M pc' lv st (mH h s') Q) : zz_E P zt_tf fd X d M pc lv (v :: .ref 61 :: st) (mH h s) Q := by
  refine zz_E.pf pc' hrow ((mH_at hh (j := 0) (by decide) rfl).trans rfl) hk hf hp ?_
  rw [mH_set hh (j := 0) (by decide) rfl e]
  exact kk
theorem mE_ia (hh : 111 ≤ h.length) (pc' j : Nat) {c n pc0 na nb : Nat} {nn : Int} {f : Nat → Int32} {i : Int32} (hrow : zz_row M pc = some (pc0, .iaload, 1, na, nb, nn)) (hj : j < 50) (hc : 61 + j = c) (hf : (mC s)[j]? = some (.inl (0, n, .inl f))) (hi : ¬ (i < 0 ∨ n ≤ i.toNatClampNeg)) (hp : pc + 1 = pc') (kk : zz_E P zt_tf fd X d M pc' lv (.int (f i.toNatClampNeg) :: st) (mH h s) Q) : zz_E P zt_tf fd X d M pc lv (.int i :: .ref c :: st) (mH h s) Q :=
  zz_E.iald pc' hrow (zz_rd_at ((mH_at hh hj hc).trans hf)) hi hp kk
theorem mE_ba (hh : 111 ≤ h.length) (pc' j : Nat) {c n pc0 na nb : Nat} {nn : Int} {f : Nat → Int32} {i : Int32} (hrow : zz_row M pc = some (pc0, .baload, 1, na, nb, nn)) (hj : j < 50) (hc : 61 + j = c) (hf : (mC s)[j]? = some (.inl (2, n, .inl f))) (hi : ¬ (i < 0 ∨ n ≤ i.toNatClampNeg)) (hp : pc + 1 = pc') (kk : zz_E P zt_tf fd X d M pc' lv (.int (f i.toNatClampNeg) :: st) (mH h s) Q) : zz_E P zt_tf fd X d M pc lv (.int i :: .ref c :: st) (mH h s) Q :=
  zz_E.bald pc' hrow (zz_rd_at ((mH_at hh hj hc).trans hf)) (Or.inl rfl) hi hp kk
theorem mE_la (hh : 111 ≤ h.length) (pc' j : Nat) {c n pc0 na nb : Nat} {nn : Int} {f : Nat → Int64} {i : Int32} (hrow : zz_row M pc = some (pc0, .laload, 1, na, nb, nn)) (hj : j < 50) (hc : 61 + j = c) (hf : (mC s)[j]? = some (.inl (1, n, .inr (.inl f)))) (hi : ¬ (i < 0 ∨ n ≤ i.toNatClampNeg)) (hp : pc + 1 = pc') (kk : zz_E P zt_tf fd X d M pc' lv (.long (f i.toNatClampNeg) :: st) (mH h s) Q) : zz_E P zt_tf fd X d M pc lv (.int i :: .ref c :: st) (mH h s) Q :=
  zz_E.lald pc' hrow (zz_rd_at ((mH_at hh hj hc).trans hf)) hi hp kk
theorem mE_is (hh : 111 ≤ h.length) (pc' j : Nat) {c n pc0 na nb : Nat} {nn : Int} {f : Nat → Int32} {x i : Int32} {s' : mS} (hrow : zz_row M pc = some (pc0, .iastore, 1, na, nb, nn)) (hj : j < 50) (hc : 61 + j = c) (hf : (mC s)[j]? = some (.inl (0, n, .inl f))) (hi : ¬ (i < 0 ∨ n ≤ i.toNatClampNeg)) (e : (mC s).set j (.inl (0, n, .inl (upd f i.toNatClampNeg x))) = mC s') (hp : pc + 1 = pc') (kk : zz_E P zt_tf fd X d M pc' lv st (mH h s') Q) : zz_E P zt_tf fd X d M pc lv (.int x :: .int i :: .ref c :: st) (mH h s) Q := by
  refine zz_E.iast pc' hrow ((mH_at hh hj hc).trans hf) hi hp ?_
  rw [mH_set hh hj hc e]
  exact kk
theorem mE_bs (hh : 111 ≤ h.length) (pc' j : Nat) {c n pc0 na nb : Nat} {nn : Int} {f : Nat → Int32} {x i : Int32} {s' : mS} (hrow : zz_row M pc = some (pc0, .bastore, 1, na, nb, nn)) (hj : j < 50) (hc : 61 + j = c) (hf : (mC s)[j]? = some (.inl (2, n, .inl f))) (hi : ¬ (i < 0 ∨ n ≤ i.toNatClampNeg)) (e : (mC s).set j (.inl (2, n, .inl (upd f i.toNatClampNeg (vp_nar (zz_ty 2) x)))) = mC s') (hp : pc + 1 = pc') (kk : zz_E P zt_tf fd X d M pc' lv st (mH h s') Q) : zz_E P zt_tf fd X d M pc lv (.int x :: .int i :: .ref c :: st) (mH h s) Q := by
  refine zz_E.bast pc' hrow ((mH_at hh hj hc).trans hf) (Or.inl rfl) hi hp ?_
  rw [mH_set hh hj hc e]
  exact kk
theorem mE_ls (hh : 111 ≤ h.length) (pc' j : Nat) {c n pc0 na nb : Nat} {nn : Int} {f : Nat → Int64} {x : Int64} {i : Int32} {s' : mS} (hrow : zz_row M pc = some (pc0, .lastore, 1, na, nb, nn)) (hj : j < 50) (hc : 61 + j = c) (hf : (mC s)[j]? = some (.inl (1, n, .inr (.inl f)))) (hi : ¬ (i < 0 ∨ n ≤ i.toNatClampNeg)) (e : (mC s).set j (.inl (1, n, .inr (.inl (vp_updL f i.toNatClampNeg x)))) = mC s') (hp : pc + 1 = pc') (kk : zz_E P zt_tf fd X d M pc' lv st (mH h s') Q) : zz_E P zt_tf fd X d M pc lv (.long x :: .int i :: .ref c :: st) (mH h s) Q := by
  refine zz_E.last pc' hrow ((mH_at hh hj hc).trans hf) hi hp ?_
  rw [mH_set hh hj hc e]
  exact kk
theorem mE_cv (hh : 111 ≤ h.length) (pc' : Nat) {as : List Value} {n : Nat} {cp : Nat} {M' : zz_M} {pc0 na : Nat} (hrow : zz_row M pc = some (pc0, .invokevirtual cp, 3, na, n, 13)) (hst : st.drop n = .ref 61 :: as) (hn : n ≤ st.length) (hcat : zz_cats as ≤ 8) (hM : P na = some M') (hl : zz_words (.ref 61 :: (st.take n).reverse) ≤ M'.1.2.2.1) (hp : pc + 3 = pc')
    (k : zz_E P zt_tf fd X d M' 0 (lv_args 0 (.ref 61 :: (st.take n).reverse)) [] (mH h s) (fun v h' => zz_E P zt_tf fd X (d + 1) M pc' lv (v.toList ++ as) h' Q)) : zz_E P zt_tf fd X (d + 1) M pc lv st (mH h s) Q := by
  refine zz_E.cl pc' hrow rfl (show ¬ (13 : Int) < 0 by decide) ?_ hM ⟨rfl, hl⟩ hp k
  show zz_site X (.invokevirtual cp) n 13 st (mH h s) = _
  unfold zz_site
  have e0 : zz_rd X (mH h s) 61 = some (.inr (13, mF s)) := zz_rd_at ((mH_at hh (j := 0) (by decide) rfl).trans rfl)
  simp only [hst, e0]
  rw [if_pos ⟨hn, hcat, by decide, Or.inl rfl⟩]
end MR
end MH
/-! constants and branches -/
section MB
variable {P : Nat → Option zz_M} {tf : Nat → Nat → FieldType} {fd : Nat → List Value} {X : Nat → Option zz_C} {d : Nat} {M : zz_M} {pc : Nat} {lv : List (Nat × Value)} {st : List Value} {h : zz_H} {Q : Option Value → zz_H → Prop}
/-- an instruction that puts a constant there -/
theorem zz_E.c (pc' : Nat) (v : Value) {r : zz_N} {v0 : Value} (hrow : zz_row M pc = some r) (hc : zz_cls r = 0) (hs : zz_step1 tf fd X M.1.2.2.1 r pc lv st h = some ((pc', lv, v0 :: st), h)) (hv : v0 = v) (k : zz_E P tf fd X d M pc' lv (v :: st) h Q) : zz_E P tf fd X d M pc lv st h Q := by
  subst hv
  exact zz_E.i hrow hc hs k
theorem zz_cond_ne (x y : Int32) : zz_cond .ne x y = decide (¬ x = y) := by
  show (!decide (x = y)) = _
  by_cases h : x = y <;> simp [h]
theorem zz_E.b1 (p1 p2 : Nat) {A : Prop} [Decidable A] {cd : ClassFile.Cond} {off : Int} {x : Int32} {pc0 na nb : Nat} {nn : Int} (hrow : zz_row M pc = some (pc0, .ifCond cd off, 3, na, nb, nn)) (hb : zz_cond cd x 0 = decide A) (ht : 0 ≤ (pc : Int) + off) (h1 : zz_to pc off = p1) (h2 : pc + 3 = p2) (k1 : A → zz_E P tf fd X d M p1 lv st h Q) (k2 : ¬ A → zz_E P tf fd X d M p2 lv st h Q) : zz_E P tf fd X d M pc lv (.int x :: st) h Q := by
  by_cases hA : A
  · exact zz_E.jt p1 hrow (hb.trans (decide_eq_true hA)) ht h1 (k1 hA)
  · exact zz_E.jf p2 hrow (hb.trans (decide_eq_false hA)) ht h2 (k2 hA)
theorem zz_E.b2 (p1 p2 : Nat) {A : Prop} [Decidable A] {cd : ClassFile.Cond} {off : Int} {x y : Int32} {pc0 na nb : Nat} {nn : Int} (hrow : zz_row M pc = some (pc0, .if_icmp cd off, 3, na, nb, nn)) (hb : zz_cond cd x y = decide A) (ht : 0 ≤ (pc : Int) + off) (h1 : zz_to pc off = p1) (h2 : pc + 3 = p2) (k1 : A → zz_E P tf fd X d M p1 lv st h Q) (k2 : ¬ A → zz_E P tf fd X d M p2 lv st h Q) : zz_E P tf fd X d M pc lv (.int y :: .int x :: st) h Q := by
  by_cases hA : A
  · exact zz_E.kt p1 hrow (hb.trans (decide_eq_true hA)) ht h1 (k1 hA)
  · exact zz_E.kf p2 hrow (hb.trans (decide_eq_false hA)) ht h2 (k2 hA)
theorem zz_E.idv (pc' : Nat) {x y : Int32} {pc0 na nb : Nat} {nn : Int} (hrow : zz_row M pc = some (pc0, .idiv, 1, na, nb, nn)) (hy : ¬ y = 0) (hp : pc + 1 = pc') (k : zz_E P tf fd X d M pc' lv (.int (x / y) :: st) h Q) : zz_E P tf fd X d M pc lv (.int y :: .int x :: st) h Q := by
  subst hp
  refine zz_E.i hrow rfl ?_ k
  show zz_wh (zz_iid (fun x y => x / y) 1 pc lv (.int y :: .int x :: st)) h = _
  unfold zz_iid
  dsimp only
  rw [if_pos ⟨rfl, hy⟩]
  rfl
theorem zz_E.idr (pc' : Nat) {x y : Int32} {pc0 na nb : Nat} {nn : Int} (hrow : zz_row M pc = some (pc0, .irem, 1, na, nb, nn)) (hy : ¬ y = 0) (hp : pc + 1 = pc') (k : zz_E P tf fd X d M pc' lv (.int (x - x / y * y) :: st) h Q) : zz_E P tf fd X d M pc lv (.int y :: .int x :: st) h Q := by
  subst hp
  refine zz_E.i hrow rfl ?_ k
  show zz_wh (zz_iid (fun x y => x - x / y * y) 1 pc lv (.int y :: .int x :: st)) h = _
  unfold zz_iid
  dsimp only
  rw [if_pos ⟨rfl, hy⟩]
  rfl
theorem zz_E.ldv (pc' : Nat) {x y : Int64} {pc0 na nb : Nat} {nn : Int} (hrow : zz_row M pc = some (pc0, .ldiv, 1, na, nb, nn)) (hy : ¬ y = 0) (hp : pc + 1 = pc') (k : zz_E P tf fd X d M pc' lv (.long (x / y) :: st) h Q) : zz_E P tf fd X d M pc lv (.long y :: .long x :: st) h Q := by
  subst hp
  refine zz_E.i hrow rfl ?_ k
  show zz_wh (zz_lld (fun x y => x / y) 1 pc lv (.long y :: .long x :: st)) h = _
  unfold zz_lld
  dsimp only
  rw [if_pos ⟨rfl, hy⟩]
  rfl
theorem zz_E.ldr (pc' : Nat) {x y : Int64} {pc0 na nb : Nat} {nn : Int} (hrow : zz_row M pc = some (pc0, .lrem, 1, na, nb, nn)) (hy : ¬ y = 0) (hp : pc + 1 = pc') (k : zz_E P tf fd X d M pc' lv (.long (x - x / y * y) :: st) h Q) : zz_E P tf fd X d M pc lv (.long y :: .long x :: st) h Q := by
  subst hp
  refine zz_E.i hrow rfl ?_ k
  show zz_wh (zz_lld (fun x y => x - x / y * y) 1 pc lv (.long y :: .long x :: st)) h = _
  unfold zz_lld
  dsimp only
  rw [if_pos ⟨rfl, hy⟩]
  rfl
def zz_tsw (dflt lo hi : Int) (offs : Array Int) (pc : Nat) (x : Int32) : Option Nat := match decide (x.toInt < lo ∨ hi < x.toInt) with
  | true => if 0 ≤ (pc : Int) + dflt then some (zz_to pc dflt) else none
  | false => match offs[(x.toInt - lo).toNat]? with
    | some off => if 0 ≤ (pc : Int) + off then some (zz_to pc off) else none
    | none => none
theorem zz_table_tsw {dflt lo hi : Int} {offs : Array Int} {x : Int32} : zz_table dflt lo hi offs pc lv (.int x :: st) = (zz_tsw dflt lo hi offs pc x).map (fun p => (p, lv, st)) := by
  have e : zz_table dflt lo hi offs pc lv (.int x :: st) = (match decide (x.toInt < lo ∨ hi < x.toInt) with
    | true => if 0 ≤ (pc : Int) + dflt then some (zz_to pc dflt, lv, st) else none
    | false => match offs[(x.toInt - lo).toNat]? with
      | some off => if 0 ≤ (pc : Int) + off then some (zz_to pc off, lv, st) else none
      | none => none) := rfl
  rw [e]
  unfold zz_tsw
  generalize decide (x.toInt < lo ∨ hi < x.toInt) = b
  cases b with
  | true => dsimp only; split <;> rfl
  | false =>
    generalize offs[(x.toInt - lo).toNat]? = o
    cases o with
    | none => rfl
    | some off => dsimp only; split <;> rfl
theorem zz_E.tv (p1 : Nat) {dflt lo hi : Int} {offs : Array Int} {x v : Int32} {pc0 ln na nb : Nat} {nn : Int} (hrow : zz_row M pc = some (pc0, .tableswitch dflt lo hi offs, ln, na, nb, nn)) (e : x = v) (hs : zz_tsw dflt lo hi offs pc v = some p1) (k : zz_E P tf fd X d M p1 lv st h Q) : zz_E P tf fd X d M pc lv (.int x :: st) h Q := by
  subst e
  refine zz_E.i hrow rfl ?_ k
  show zz_wh (zz_table dflt lo hi offs pc lv (.int x :: st)) h = _
  rw [zz_table_tsw, hs]
  rfl
theorem zz_E.td (p1 : Nat) {dflt lo hi : Int} {offs : Array Int} {x : Int32} {pc0 ln na nb : Nat} {nn : Int} (hrow : zz_row M pc = some (pc0, .tableswitch dflt lo hi offs, ln, na, nb, nn)) (hx : x.toInt < lo ∨ hi < x.toInt) (ht : 0 ≤ (pc : Int) + dflt) (hp : zz_to pc dflt = p1) (k : zz_E P tf fd X d M p1 lv st h Q) : zz_E P tf fd X d M pc lv (.int x :: st) h Q := by
  subst hp
  refine zz_E.i hrow rfl ?_ k
  show zz_wh (zz_table dflt lo hi offs pc lv (.int x :: st)) h = _
  rw [zz_table_tsw]
  unfold zz_tsw
  rw [decide_eq_true hx]
  dsimp only
  rw [if_pos ht]
  rfl
theorem zz_E.lk (p1 : Nat) (off : Int) {dflt : Int} {ps : Array (Int × Int)} {x : Int32} {pc0 ln na nb : Nat} {nn : Int} (hrow : zz_row M pc = some (pc0, .lookupswitch dflt ps, ln, na, nb, nn)) (ho : Op.lookupswitch.offset ps.toList dflt x.toInt = off) (hsrt : (ps.toList.zip (ps.toList.drop 1)).all (fun (a, next) => a.1 < next.1) = true) (ht : 0 ≤ (pc : Int) + off) (hp : zz_to pc off = p1) (k : zz_E P tf fd X d M p1 lv st h Q) : zz_E P tf fd X d M pc lv (.int x :: st) h Q := by
  subst hp
  refine zz_E.i hrow rfl ?_ k
  show zz_wh (zz_look dflt ps pc lv (.int x :: st)) h = _
  unfold zz_look
  dsimp only
  rw [ho, if_pos ⟨hsrt, ht⟩]
  rfl
end MB
