/-! ===== PURE: evaluation's rows ===== -/
theorem l32_0 : (0 : Int32) = Int32.ofNat 0 := rfl
theorem l32_1 : (1 : Int32) = Int32.ofNat 1 := rfl
theorem l32_2 : (2 : Int32) = Int32.ofNat 2 := rfl
theorem l32_3 : (3 : Int32) = Int32.ofNat 3 := rfl
theorem l32_4 : (4 : Int32) = Int32.ofNat 4 := rfl
theorem l32_5 : (5 : Int32) = Int32.ofNat 5 := rfl
theorem l32_6 : (6 : Int32) = Int32.ofNat 6 := rfl
theorem l32_7 : (7 : Int32) = Int32.ofNat 7 := rfl
theorem l32_8 : (8 : Int32) = Int32.ofNat 8 := rfl
theorem l32_9 : (9 : Int32) = Int32.ofNat 9 := rfl
theorem l32_10 : (10 : Int32) = Int32.ofNat 10 := rfl
theorem l32_11 : (11 : Int32) = Int32.ofNat 11 := rfl
theorem l32_12 : (12 : Int32) = Int32.ofNat 12 := rfl
theorem l32_13 : (13 : Int32) = Int32.ofNat 13 := rfl
theorem l32_14 : (14 : Int32) = Int32.ofNat 14 := rfl
theorem l32_15 : (15 : Int32) = Int32.ofNat 15 := rfl
theorem l32_16 : (16 : Int32) = Int32.ofNat 16 := rfl
theorem l32_17 : (17 : Int32) = Int32.ofNat 17 := rfl
theorem l32_18 : (18 : Int32) = Int32.ofNat 18 := rfl
theorem l32_19 : (19 : Int32) = Int32.ofNat 19 := rfl
theorem l32_20 : (20 : Int32) = Int32.ofNat 20 := rfl
theorem l32_21 : (21 : Int32) = Int32.ofNat 21 := rfl
theorem l32_22 : (22 : Int32) = Int32.ofNat 22 := rfl
theorem l32_23 : (23 : Int32) = Int32.ofNat 23 := rfl
theorem l32_24 : (24 : Int32) = Int32.ofNat 24 := rfl
theorem l32_25 : (25 : Int32) = Int32.ofNat 25 := rfl
theorem l32_26 : (26 : Int32) = Int32.ofNat 26 := rfl
theorem l32_27 : (27 : Int32) = Int32.ofNat 27 := rfl
theorem l32_28 : (28 : Int32) = Int32.ofNat 28 := rfl
theorem l32_29 : (29 : Int32) = Int32.ofNat 29 := rfl
theorem l32_30 : (30 : Int32) = Int32.ofNat 30 := rfl
theorem l32_31 : (31 : Int32) = Int32.ofNat 31 := rfl
theorem l32_32 : (32 : Int32) = Int32.ofNat 32 := rfl
theorem l32_33 : (33 : Int32) = Int32.ofNat 33 := rfl
theorem l32_34 : (34 : Int32) = Int32.ofNat 34 := rfl
theorem l32_35 : (35 : Int32) = Int32.ofNat 35 := rfl
theorem l32_36 : (36 : Int32) = Int32.ofNat 36 := rfl
theorem l32_37 : (37 : Int32) = Int32.ofNat 37 := rfl
theorem l32_38 : (38 : Int32) = Int32.ofNat 38 := rfl
theorem l32_39 : (39 : Int32) = Int32.ofNat 39 := rfl
theorem l32_40 : (40 : Int32) = Int32.ofNat 40 := rfl
theorem l32_41 : (41 : Int32) = Int32.ofNat 41 := rfl
theorem l32_42 : (42 : Int32) = Int32.ofNat 42 := rfl
theorem l32_43 : (43 : Int32) = Int32.ofNat 43 := rfl
theorem l32_44 : (44 : Int32) = Int32.ofNat 44 := rfl
theorem l32_45 : (45 : Int32) = Int32.ofNat 45 := rfl
theorem l32_46 : (46 : Int32) = Int32.ofNat 46 := rfl
theorem l32_47 : (47 : Int32) = Int32.ofNat 47 := rfl
theorem l32_48 : (48 : Int32) = Int32.ofNat 48 := rfl
theorem l32_49 : (49 : Int32) = Int32.ofNat 49 := rfl
theorem l32_50 : (50 : Int32) = Int32.ofNat 50 := rfl
theorem l32_51 : (51 : Int32) = Int32.ofNat 51 := rfl
theorem l32_52 : (52 : Int32) = Int32.ofNat 52 := rfl
theorem l32_53 : (53 : Int32) = Int32.ofNat 53 := rfl
theorem l32_54 : (54 : Int32) = Int32.ofNat 54 := rfl
theorem l32_55 : (55 : Int32) = Int32.ofNat 55 := rfl
theorem l32_56 : (56 : Int32) = Int32.ofNat 56 := rfl
theorem l32_57 : (57 : Int32) = Int32.ofNat 57 := rfl
theorem l32_58 : (58 : Int32) = Int32.ofNat 58 := rfl
theorem l32_59 : (59 : Int32) = Int32.ofNat 59 := rfl
theorem l32_60 : (60 : Int32) = Int32.ofNat 60 := rfl
theorem l32_61 : (61 : Int32) = Int32.ofNat 61 := rfl
theorem l32_62 : (62 : Int32) = Int32.ofNat 62 := rfl
theorem l32_63 : (63 : Int32) = Int32.ofNat 63 := rfl
theorem l32_64 : (64 : Int32) = Int32.ofNat 64 := rfl
theorem l32_65 : (65 : Int32) = Int32.ofNat 65 := rfl
theorem l32_91 : (91 : Int32) = Int32.ofNat 91 := rfl
theorem l32_93 : (93 : Int32) = Int32.ofNat 93 := rfl
theorem l32_94 : (94 : Int32) = Int32.ofNat 94 := rfl
theorem l32_96 : (96 : Int32) = Int32.ofNat 96 := rfl
theorem l32_97 : (97 : Int32) = Int32.ofNat 97 := rfl
theorem l32_100 : (100 : Int32) = Int32.ofNat 100 := rfl
theorem l32_122 : (122 : Int32) = Int32.ofNat 122 := rfl
theorem l32_123 : (123 : Int32) = Int32.ofNat 123 := rfl
theorem l32_124 : (124 : Int32) = Int32.ofNat 124 := rfl
theorem l32_125 : (125 : Int32) = Int32.ofNat 125 := rfl
theorem l32_128 : (128 : Int32) = Int32.ofNat 128 := rfl
theorem l32_140 : (140 : Int32) = Int32.ofNat 140 := rfl
theorem l32_200 : (200 : Int32) = Int32.ofNat 200 := rfl
theorem l32_255 : (255 : Int32) = Int32.ofNat 255 := rfl
theorem l32_256 : (256 : Int32) = Int32.ofNat 256 := rfl
theorem l32_257 : (257 : Int32) = Int32.ofNat 257 := rfl
theorem l32_258 : (258 : Int32) = Int32.ofNat 258 := rfl
theorem l32_259 : (259 : Int32) = Int32.ofNat 259 := rfl
theorem l32_289 : (289 : Int32) = Int32.ofNat 289 := rfl
theorem l32_316 : (316 : Int32) = Int32.ofNat 316 := rfl
theorem l32_317 : (317 : Int32) = Int32.ofNat 317 := rfl
theorem l32_318 : (318 : Int32) = Int32.ofNat 318 := rfl
theorem l32_400 : (400 : Int32) = Int32.ofNat 400 := rfl
theorem l32_600 : (600 : Int32) = Int32.ofNat 600 := rfl
theorem l32_700 : (700 : Int32) = Int32.ofNat 700 := rfl
theorem l32_800 : (800 : Int32) = Int32.ofNat 800 := rfl
theorem l32_1200 : (1200 : Int32) = Int32.ofNat 1200 := rfl
theorem l32_1600 : (1600 : Int32) = Int32.ofNat 1600 := rfl
theorem l32_1620 : (1620 : Int32) = Int32.ofNat 1620 := rfl
theorem l32_2000 : (2000 : Int32) = Int32.ofNat 2000 := rfl
theorem l32_2410 : (2410 : Int32) = Int32.ofNat 2410 := rfl
theorem l32_3000 : (3000 : Int32) = Int32.ofNat 3000 := rfl
theorem l32_4000 : (4000 : Int32) = Int32.ofNat 4000 := rfl
theorem l32_8000 : (8000 : Int32) = Int32.ofNat 8000 := rfl
theorem l32_9000 : (9000 : Int32) = Int32.ofNat 9000 := rfl
theorem l32_20000 : (20000 : Int32) = Int32.ofNat 20000 := rfl
theorem l32_154240 : (154240 : Int32) = Int32.ofNat 154240 := rfl
theorem l32_154250 : (154250 : Int32) = Int32.ofNat 154250 := rfl
theorem l32_166300 : (166300 : Int32) = Int32.ofNat 166300 := rfl
theorem ev_c {m : Nat} (h : m < 2147483648) : (Int32.ofNat m).toNatClampNeg = m := i32c h
theorem ev_lt {a b : Nat} (ha : a < 2147483648) (hb : b < 2147483648) : (Int32.ofNat a < Int32.ofNat b) = (a < b) := propext (i32lt ha hb)
theorem ev_le {a b : Nat} (ha : a < 2147483648) (hb : b < 2147483648) : (Int32.ofNat a ≤ Int32.ofNat b) = (a ≤ b) := propext (i32le ha hb)
theorem ev_eq {a b : Nat} (ha : a < 2147483648) (hb : b < 2147483648) : (Int32.ofNat a = Int32.ofNat b) = (a = b) := propext (i32eq ha hb)
theorem ev_sub {a b : Nat} (h : b ≤ a) : Int32.ofNat a - Int32.ofNat b = Int32.ofNat (a - b) := by
  have e : Int32.ofNat a = Int32.ofNat (a - b) + Int32.ofNat b := by rw [i32add, Nat.sub_add_cancel h]
  rw [e, Int32.add_sub_cancel]
theorem ev_leT {a b : Nat} (h : a ≤ b) : (a ≤ b) = True := eq_true h
theorem ev_leF {a b : Nat} (h : b < a) : (a ≤ b) = False := eq_false (by omega)
theorem ev_ltT {a b : Nat} (h : a < b) : (a < b) = True := eq_true h
theorem ev_ltF {a b : Nat} (h : b ≤ a) : (a < b) = False := eq_false (by omega)
theorem ev_eqT {a b : Nat} (h : a = b) : (a = b) = True := eq_true h
theorem ev_eqF {a b : Nat} (h : ¬ a = b) : (a = b) = False := eq_false h
theorem ev_bi {s : mS} {y : Int32} {g : mS → Int32 → mO} : mo_bi (some (s, some (.int y))) g = g s y := rfl
theorem ev_bl {s : mS} {y : Int64} {g : mS → Int64 → mO} : mo_bl (some (s, some (.long y))) g = g s y := rfl
theorem ev_bv {s : mS} {g : mS → mO} : mo_bv (some (s, none)) g = g s := rfl
theorem ev_kc {nn : Int} {t : cS} {v : Option Value} {g : cS → Option Value → kO} : ko_call nn (some (t, .inl v)) g = g t v := rfl
theorem ev_cv {g : kO} : co_v none g = g := rfl
theorem ev_ci {y : Int32} {g : Int32 → kO} : co_i (some (.int y)) g = g y := rfl
theorem ev_cl {y : Int64} {g : Int64 → kO} : co_l (some (.long y)) g = g y := rfl
theorem ev_cr {y : Nat} {g : Nat → kO} : co_r (some (.ref y)) g = g y := rfl
theorem ev_b {α β : Type} {a : α} {g : α → Option β} : co_b (some a) g = g a := rfl
theorem ev_rb0 : zz_reti (some .boolean) (Int32.ofNat 0) = true := rfl
theorem ev_rb1 : zz_reti (some .boolean) (Int32.ofNat 1) = true := rfl
theorem ev_ri {c : Prop} [Decidable c] : zz_reti (some .boolean) (if c then Int32.ofNat 1 else Int32.ofNat 0) = true := by
  split <;> rfl
theorem ev_m1 : (-Int32.ofNat 1).toInt = -1 := by decide
theorem ev_n1 {a : Nat} (h : a < 2147483648) : (-Int32.ofNat 1 < Int32.ofNat a) = True := eq_true (by
  rw [Int32.lt_iff_toInt_lt, i32t h, ev_m1]
  omega)
theorem ev_n2 {a : Nat} (h : a < 2147483648) : (-Int32.ofNat 1 ≤ Int32.ofNat a) = True := eq_true (by
  rw [Int32.le_iff_toInt_le, i32t h, ev_m1]
  omega)
theorem ev_n3 {a : Nat} (h : a < 2147483648) : (Int32.ofNat a < -Int32.ofNat 1) = False := eq_false (by
  rw [Int32.lt_iff_toInt_lt, i32t h, ev_m1]
  omega)
theorem ev_n4 {a : Nat} (h : a < 2147483648) : (Int32.ofNat a ≤ -Int32.ofNat 1) = False := eq_false (by
  rw [Int32.le_iff_toInt_le, i32t h, ev_m1]
  omega)
theorem ev_n5 {a : Nat} (h : a < 2147483648) : (Int32.ofNat a = -Int32.ofNat 1) = False := eq_false (fun q => by
  have := congrArg Int32.toInt q
  rw [i32t h, ev_m1] at this
  omega)
theorem ev_n6 {a : Nat} (h : a < 2147483648) : (-Int32.ofNat 1 = Int32.ofNat a) = False := eq_false (fun q => by
  have := congrArg Int32.toInt q
  rw [i32t h, ev_m1] at this
  omega)
theorem ev_S : (∀ {m : Nat}, m < 2147483648 → (Int32.ofNat m).toNatClampNeg = m) ∧ (∀ {a b : Nat}, a < 2147483648 → b < 2147483648 → (Int32.ofNat a < Int32.ofNat b) = (a < b)) ∧ (∀ {a b : Nat}, a < 2147483648 → b < 2147483648 → (Int32.ofNat a ≤ Int32.ofNat b) = (a ≤ b)) ∧ (∀ {a b : Nat}, a < 2147483648 → b < 2147483648 → (Int32.ofNat a = Int32.ofNat b) = (a = b)) ∧ (∀ {a b : Nat}, b ≤ a → Int32.ofNat a - Int32.ofNat b = Int32.ofNat (a - b)) ∧ (∀ {a b : Nat}, Int32.ofNat a + Int32.ofNat b = Int32.ofNat (a + b)) ∧ (∀ {a b : Nat}, Int32.ofNat a * Int32.ofNat b = Int32.ofNat (a * b)) ∧ (∀ {a b : Nat}, a ≤ b → (a ≤ b) = True) ∧ (∀ {a b : Nat}, b < a → (a ≤ b) = False) ∧ (∀ {a b : Nat}, a < b → (a < b) = True) ∧ (∀ {a b : Nat}, b ≤ a → (a < b) = False) ∧ (∀ {a b : Nat}, a = b → (a = b) = True) ∧ (∀ {a b : Nat}, ¬ a = b → (a = b) = False) ∧ (∀ {s : mS} {y : Int32} {g : mS → Int32 → mO}, mo_bi (some (s, some (.int y))) g = g s y) ∧ (∀ {s : mS} {y : Int64} {g : mS → Int64 → mO}, mo_bl (some (s, some (.long y))) g = g s y) ∧ (∀ {s : mS} {g : mS → mO}, mo_bv (some (s, none)) g = g s) ∧ (∀ {nn : Int} {t : cS} {v : Option Value} {g : cS → Option Value → kO}, ko_call nn (some (t, .inl v)) g = g t v) ∧ (∀ {g : kO}, co_v none g = g) ∧ (∀ {y : Int32} {g : Int32 → kO}, co_i (some (.int y)) g = g y) ∧ (∀ {y : Int64} {g : Int64 → kO}, co_l (some (.long y)) g = g y) ∧ (∀ {y : Nat} {g : Nat → kO}, co_r (some (.ref y)) g = g y) ∧ (∀ {a : Nat} {g : Nat → kO}, co_b (some a) g = g a) ∧ (zz_reti (some .boolean) (Int32.ofNat 0) = true) ∧ (zz_reti (some .boolean) (Int32.ofNat 1) = true) ∧ ((¬ False) = True) ∧ ((¬ True) = False) ∧ (∀ {p : Prop}, (p ∨ False) = p) ∧ (∀ {p : Prop}, (False ∨ p) = p) ∧ (∀ {p : Prop}, (p ∨ True) = True) ∧ (∀ {p : Prop}, (True ∨ p) = True) ∧ (∀ {p : Prop}, (p ∧ True) = p) ∧ (∀ {p : Prop}, (True ∧ p) = p) ∧ (∀ {p : Prop}, (p ∧ False) = False) ∧ (∀ {p : Prop}, (False ∧ p) = False) ∧ (∀ {α : Type} {a : α}, (a = a) = True) ∧ (∀ {n m : Nat}, n + m - m = n) ∧ (∀ {a : Nat}, a < 2147483648 → (-Int32.ofNat 1 < Int32.ofNat a) = True) ∧ (∀ {a : Nat}, a < 2147483648 → (-Int32.ofNat 1 ≤ Int32.ofNat a) = True) ∧ (∀ {a : Nat}, a < 2147483648 → (Int32.ofNat a < -Int32.ofNat 1) = False) ∧ (∀ {a : Nat}, a < 2147483648 → (Int32.ofNat a ≤ -Int32.ofNat 1) = False) ∧ (∀ {a : Nat}, a < 2147483648 → (Int32.ofNat a = -Int32.ofNat 1) = False) ∧ (∀ {a : Nat}, a < 2147483648 → (-Int32.ofNat 1 = Int32.ofNat a) = False) := ⟨ev_c, ev_lt, ev_le, ev_eq, ev_sub, i32add, i32mul, ev_leT, ev_leF, ev_ltT, ev_ltF, ev_eqT, ev_eqF, ev_bi, ev_bl, ev_bv, ev_kc, ev_cv, ev_ci, ev_cl, ev_cr, ev_b, ev_rb0, ev_rb1, not_false_eq_true, not_true_eq_false, or_false _, false_or _, or_true _, true_or _, and_true _, true_and _, and_false _, false_and _, eq_self _, Nat.add_sub_cancel _ _, ev_n1, ev_n2, ev_n3, ev_n4, ev_n5, ev_n6⟩
theorem ev_P : (∀ (s : mS) (k : Nat) (x : Int32) (q : Nat), (mI s k x).1 q = (if q = k then x else s.1 q)) ∧ (∀ (s : mS) (k : Nat) (x : Int32), (mI s k x).2.1 = s.2.1) ∧ (∀ (s : mS) (k : Nat) (x : Int32), (mI s k x).2.2.1 = s.2.2.1) ∧ (∀ (s : mS) (k : Nat) (x : Int32), (mI s k x).2.2.2 = s.2.2.2) ∧ (∀ (s : mS) (k : Nat) (x : Int64), (mL s k x).1 = s.1) ∧ (∀ (s : mS) (k : Nat) (x : Int64) (q : Nat), (mL s k x).2.1 q = (if q = k then x else s.2.1 q)) ∧ (∀ (s : mS) (k : Nat) (x : Int64), (mL s k x).2.2.1 = s.2.2.1) ∧ (∀ (s : mS) (k : Nat) (x : Int64), (mL s k x).2.2.2 = s.2.2.2) ∧ (∀ (s : mS) (k : Nat) (f : Nat → Int32), (mA s k f).1 = s.1) ∧ (∀ (s : mS) (k : Nat) (f : Nat → Int32), (mA s k f).2.1 = s.2.1) ∧ (∀ (s : mS) (k : Nat) (f : Nat → Int32) (q : Nat), (mA s k f).2.2.1 q = (if q = k then f else s.2.2.1 q)) ∧ (∀ (s : mS) (k : Nat) (f : Nat → Int32), (mA s k f).2.2.2 = s.2.2.2) ∧ (∀ (s : mS) (k : Nat) (f : Nat → Int64), (mB s k f).1 = s.1) ∧ (∀ (s : mS) (k : Nat) (f : Nat → Int64), (mB s k f).2.1 = s.2.1) ∧ (∀ (s : mS) (k : Nat) (f : Nat → Int64), (mB s k f).2.2.1 = s.2.2.1) ∧ (∀ (s : mS) (k : Nat) (f : Nat → Int64) (q : Nat), (mB s k f).2.2.2 q = (if q = k then f else s.2.2.2 q)) := ⟨m0_mI, m1_mI, m2_mI, m3_mI, m0_mL, m1_mL, m2_mL, m3_mL, m0_mA, m1_mA, m2_mA, m3_mA, m0_mB, m1_mB, m2_mB, m3_mB⟩
theorem ev_C : (∀ (t : cS) (k f : Nat) (x : Int32) (a b : Nat), kI (jI t k f x) a b = (if a = k ∧ b = f then x else kI t a b)) ∧ (∀ (t : cS) (k f : Nat) (x : Int32), kL (jI t k f x) = kL t) ∧ (∀ (t : cS) (k f : Nat) (x : Int32), kP (jI t k f x) = kP t) ∧ (∀ (t : cS) (k f : Nat) (x : Int32), kA (jI t k f x) = kA t) ∧ (∀ (t : cS) (k f : Nat) (x : Int32), kB (jI t k f x) = kB t) ∧ (∀ (t : cS) (k f : Nat) (x : Int32), kM (jI t k f x) = kM t) ∧ (∀ (t : cS) (k f : Nat) (x : Int32), kD (jI t k f x) = kD t) ∧ (∀ (t : cS) (k f : Nat) (x : Int32), kZ (jI t k f x) = kZ t) ∧ (∀ (t : cS) (k f : Nat) (x : Int32), kH (jI t k f x) = kH t) ∧ (∀ (t : cS) (k f : Nat) (x : Int32), kN (jI t k f x) = kN t) ∧ (∀ (t : cS) (k f : Nat) (x : Int32), kQ (jI t k f x) = kQ t) ∧ (∀ (t : cS) (k f : Nat) (x : Int64), kI (jL t k f x) = kI t) ∧ (∀ (t : cS) (k f : Nat) (x : Int64) (a b : Nat), kL (jL t k f x) a b = (if a = k ∧ b = f then x else kL t a b)) ∧ (∀ (t : cS) (k f : Nat) (x : Int64), kP (jL t k f x) = kP t) ∧ (∀ (t : cS) (k f : Nat) (x : Int64), kA (jL t k f x) = kA t) ∧ (∀ (t : cS) (k f : Nat) (x : Int64), kB (jL t k f x) = kB t) ∧ (∀ (t : cS) (k f : Nat) (x : Int64), kM (jL t k f x) = kM t) ∧ (∀ (t : cS) (k f : Nat) (x : Int64), kD (jL t k f x) = kD t) ∧ (∀ (t : cS) (k f : Nat) (x : Int64), kZ (jL t k f x) = kZ t) ∧ (∀ (t : cS) (k f : Nat) (x : Int64), kH (jL t k f x) = kH t) ∧ (∀ (t : cS) (k f : Nat) (x : Int64), kN (jL t k f x) = kN t) ∧ (∀ (t : cS) (k f : Nat) (x : Int64), kQ (jL t k f x) = kQ t) ∧ (∀ (t : cS) (k f : Nat) (x : Option Nat), kI (jP t k f x) = kI t) ∧ (∀ (t : cS) (k f : Nat) (x : Option Nat), kL (jP t k f x) = kL t) ∧ (∀ (t : cS) (k f : Nat) (x : Option Nat) (a b : Nat), kP (jP t k f x) a b = (if a = k ∧ b = f then x else kP t a b)) ∧ (∀ (t : cS) (k f : Nat) (x : Option Nat), kA (jP t k f x) = kA t) ∧ (∀ (t : cS) (k f : Nat) (x : Option Nat), kB (jP t k f x) = kB t) ∧ (∀ (t : cS) (k f : Nat) (x : Option Nat), kM (jP t k f x) = kM t) ∧ (∀ (t : cS) (k f : Nat) (x : Option Nat), kD (jP t k f x) = kD t) ∧ (∀ (t : cS) (k f : Nat) (x : Option Nat), kZ (jP t k f x) = kZ t) ∧ (∀ (t : cS) (k f : Nat) (x : Option Nat), kH (jP t k f x) = kH t) ∧ (∀ (t : cS) (k f : Nat) (x : Option Nat), kN (jP t k f x) = kN t) ∧ (∀ (t : cS) (k f : Nat) (x : Option Nat), kQ (jP t k f x) = kQ t) ∧ (∀ (t : cS) (k : Nat) (g : Nat → Int32), kI (jA t k g) = kI t) ∧ (∀ (t : cS) (k : Nat) (g : Nat → Int32), kL (jA t k g) = kL t) ∧ (∀ (t : cS) (k : Nat) (g : Nat → Int32), kP (jA t k g) = kP t) ∧ (∀ (t : cS) (k : Nat) (g : Nat → Int32) (a : Nat), kA (jA t k g) a = (if a = k then ((kA t k).1, g) else kA t a)) ∧ (∀ (t : cS) (k : Nat) (g : Nat → Int32), kB (jA t k g) = kB t) ∧ (∀ (t : cS) (k : Nat) (g : Nat → Int32), kM (jA t k g) = kM t) ∧ (∀ (t : cS) (k : Nat) (g : Nat → Int32), kD (jA t k g) = kD t) ∧ (∀ (t : cS) (k : Nat) (g : Nat → Int32), kZ (jA t k g) = kZ t) ∧ (∀ (t : cS) (k : Nat) (g : Nat → Int32), kH (jA t k g) = kH t) ∧ (∀ (t : cS) (k : Nat) (g : Nat → Int32), kN (jA t k g) = kN t) ∧ (∀ (t : cS) (k : Nat) (g : Nat → Int32), kQ (jA t k g) = kQ t) ∧ (∀ (t : cS) (k : Nat) (g : Nat → Int64), kI (jB t k g) = kI t) ∧ (∀ (t : cS) (k : Nat) (g : Nat → Int64), kL (jB t k g) = kL t) ∧ (∀ (t : cS) (k : Nat) (g : Nat → Int64), kP (jB t k g) = kP t) ∧ (∀ (t : cS) (k : Nat) (g : Nat → Int64), kA (jB t k g) = kA t) ∧ (∀ (t : cS) (k : Nat) (g : Nat → Int64) (a : Nat), kB (jB t k g) a = (if a = k then ((kB t k).1, g) else kB t a)) ∧ (∀ (t : cS) (k : Nat) (g : Nat → Int64), kM (jB t k g) = kM t) ∧ (∀ (t : cS) (k : Nat) (g : Nat → Int64), kD (jB t k g) = kD t) ∧ (∀ (t : cS) (k : Nat) (g : Nat → Int64), kZ (jB t k g) = kZ t) ∧ (∀ (t : cS) (k : Nat) (g : Nat → Int64), kH (jB t k g) = kH t) ∧ (∀ (t : cS) (k : Nat) (g : Nat → Int64), kN (jB t k g) = kN t) ∧ (∀ (t : cS) (k : Nat) (g : Nat → Int64), kQ (jB t k g) = kQ t) ∧ (∀ (t : cS) (g : Nat → Option Nat), kI (jM t g) = kI t) ∧ (∀ (t : cS) (g : Nat → Option Nat), kL (jM t g) = kL t) ∧ (∀ (t : cS) (g : Nat → Option Nat), kP (jM t g) = kP t) ∧ (∀ (t : cS) (g : Nat → Option Nat), kA (jM t g) = kA t) ∧ (∀ (t : cS) (g : Nat → Option Nat), kB (jM t g) = kB t) ∧ (∀ (t : cS) (g : Nat → Option Nat), kM (jM t g)  = (g)) ∧ (∀ (t : cS) (g : Nat → Option Nat), kD (jM t g) = kD t) ∧ (∀ (t : cS) (g : Nat → Option Nat), kZ (jM t g) = kZ t) ∧ (∀ (t : cS) (g : Nat → Option Nat), kH (jM t g) = kH t) ∧ (∀ (t : cS) (g : Nat → Option Nat), kN (jM t g) = kN t) ∧ (∀ (t : cS) (g : Nat → Option Nat), kQ (jM t g) = kQ t) ∧ (∀ (t : cS) (z n : Nat) (g : Nat → Int32), kI (jNI t z n g) = kI t) ∧ (∀ (t : cS) (z n : Nat) (g : Nat → Int32), kL (jNI t z n g) = kL t) ∧ (∀ (t : cS) (z n : Nat) (g : Nat → Int32), kP (jNI t z n g) = kP t) ∧ (∀ (t : cS) (z n : Nat) (g : Nat → Int32) (a : Nat), kA (jNI t z n g) a = (if a = 111 then (n, g) else kA t a)) ∧ (∀ (t : cS) (z n : Nat) (g : Nat → Int32), kB (jNI t z n g) = kB t) ∧ (∀ (t : cS) (z n : Nat) (g : Nat → Int32), kM (jNI t z n g) = kM t) ∧ (∀ (t : cS) (z n : Nat) (g : Nat → Int32) (a : Nat), kD (jNI t z n g) a = (if a = 111 then kN t else kD t a)) ∧ (∀ (t : cS) (z n : Nat) (g : Nat → Int32), kZ (jNI t z n g)  = (z)) ∧ (∀ (t : cS) (z n : Nat) (g : Nat → Int32), kH (jNI t z n g) = kH t) ∧ (∀ (t : cS) (z n : Nat) (g : Nat → Int32), kN (jNI t z n g)  = (kN t + 1)) ∧ (∀ (t : cS) (z n : Nat) (g : Nat → Int32), kQ (jNI t z n g)  = (kQ t + n)) ∧ (∀ (t : cS) (n : Nat) (g : Nat → Int64), kI (jNL t n g) = kI t) ∧ (∀ (t : cS) (n : Nat) (g : Nat → Int64), kL (jNL t n g) = kL t) ∧ (∀ (t : cS) (n : Nat) (g : Nat → Int64), kP (jNL t n g) = kP t) ∧ (∀ (t : cS) (n : Nat) (g : Nat → Int64), kA (jNL t n g) = kA t) ∧ (∀ (t : cS) (n : Nat) (g : Nat → Int64) (a : Nat), kB (jNL t n g) a = (if a = 111 then (n, g) else kB t a)) ∧ (∀ (t : cS) (n : Nat) (g : Nat → Int64), kM (jNL t n g) = kM t) ∧ (∀ (t : cS) (n : Nat) (g : Nat → Int64) (a : Nat), kD (jNL t n g) a = (if a = 111 then kN t else kD t a)) ∧ (∀ (t : cS) (n : Nat) (g : Nat → Int64), kZ (jNL t n g)  = (2)) ∧ (∀ (t : cS) (n : Nat) (g : Nat → Int64), kH (jNL t n g) = kH t) ∧ (∀ (t : cS) (n : Nat) (g : Nat → Int64), kN (jNL t n g)  = (kN t + 1)) ∧ (∀ (t : cS) (n : Nat) (g : Nat → Int64), kQ (jNL t n g)  = (kQ t + n)) ∧ (∀ (t : cS) (k : Nat), kI (jMv t k) = kI t) ∧ (∀ (t : cS) (k : Nat), kL (jMv t k) = kL t) ∧ (∀ (t : cS) (k : Nat), kP (jMv t k) = kP t) ∧ (∀ (t : cS) (k : Nat) (a : Nat), kA (jMv t k) a = (if a = k then kA t 111 else kA t a)) ∧ (∀ (t : cS) (k : Nat) (a : Nat), kB (jMv t k) a = (if a = k then kB t 111 else kB t a)) ∧ (∀ (t : cS) (k : Nat), kM (jMv t k) = kM t) ∧ (∀ (t : cS) (k : Nat) (a : Nat), kD (jMv t k) a = (if a = k then kD t 111 else kD t a)) ∧ (∀ (t : cS) (k : Nat), kZ (jMv t k)  = (0)) ∧ (∀ (t : cS) (k : Nat), kH (jMv t k) = kH t) ∧ (∀ (t : cS) (k : Nat), kN (jMv t k) = kN t) ∧ (∀ (t : cS) (k : Nat), kQ (jMv t k) = kQ t) ∧ (∀ (t : cS) (n : Nat), kI (jX t n) = kI t) ∧ (∀ (t : cS) (n : Nat), kL (jX t n) = kL t) ∧ (∀ (t : cS) (n : Nat), kP (jX t n) = kP t) ∧ (∀ (t : cS) (n : Nat), kA (jX t n) = kA t) ∧ (∀ (t : cS) (n : Nat), kB (jX t n) = kB t) ∧ (∀ (t : cS) (n : Nat), kM (jX t n) = kM t) ∧ (∀ (t : cS) (n : Nat), kD (jX t n) = kD t) ∧ (∀ (t : cS) (n : Nat), kZ (jX t n) = kZ t) ∧ (∀ (t : cS) (n : Nat), kH (jX t n) = kH t) ∧ (∀ (t : cS) (n : Nat), kN (jX t n)  = (kN t + 1)) ∧ (∀ (t : cS) (n : Nat), kQ (jX t n)  = (kQ t + n)) := ⟨kI_jI, kL_jI, kP_jI, kA_jI, kB_jI, kM_jI, kD_jI, kZ_jI, kH_jI, kN_jI, kQ_jI, kI_jL, kL_jL, kP_jL, kA_jL, kB_jL, kM_jL, kD_jL, kZ_jL, kH_jL, kN_jL, kQ_jL, kI_jP, kL_jP, kP_jP, kA_jP, kB_jP, kM_jP, kD_jP, kZ_jP, kH_jP, kN_jP, kQ_jP, kI_jA, kL_jA, kP_jA, kA_jA, kB_jA, kM_jA, kD_jA, kZ_jA, kH_jA, kN_jA, kQ_jA, kI_jB, kL_jB, kP_jB, kA_jB, kB_jB, kM_jB, kD_jB, kZ_jB, kH_jB, kN_jB, kQ_jB, kI_jM, kL_jM, kP_jM, kA_jM, kB_jM, kM_jM, kD_jM, kZ_jM, kH_jM, kN_jM, kQ_jM, kI_jNI, kL_jNI, kP_jNI, kA_jNI, kB_jNI, kM_jNI, kD_jNI, kZ_jNI, kH_jNI, kN_jNI, kQ_jNI, kI_jNL, kL_jNL, kP_jNL, kA_jNL, kB_jNL, kM_jNL, kD_jNL, kZ_jNL, kH_jNL, kN_jNL, kQ_jNL, kI_jMv, kL_jMv, kP_jMv, kA_jMv, kB_jMv, kM_jMv, kD_jMv, kZ_jMv, kH_jMv, kN_jMv, kQ_jMv, kI_jX, kL_jX, kP_jX, kA_jX, kB_jX, kM_jX, kD_jX, kZ_jX, kH_jX, kN_jX, kQ_jX⟩
/-- a loop that counts up to n, with what holds at each round -/
theorem lp {α β : Type} (L : Nat → Nat → α → β) (n : Nat) (P : Nat → α → Prop) (Q : β → Prop) (hs : ∀ f i a, i < n → P i a → n - i ≤ f → (∃ a', P (i + 1) a' ∧ L (f + 1) i a = L f (i + 1) a') ∨ Q (L (f + 1) i a)) (he : ∀ f a, P n a → Q (L (f + 1) n a)) : ∀ (d i f : Nat) (a : α), i + d = n → d < f → P i a → Q (L f i a) := by
  intro d
  induction d with
  | zero =>
    intro i f a hi hf hp
    have hi : i = n := hi
    subst hi
    obtain ⟨f, rfl⟩ := Nat.exists_eq_add_of_lt hf
    rw [Nat.zero_add]
    exact he f a hp
  | succ d ih =>
    intro i f a hi hf hp
    obtain ⟨f, rfl⟩ := Nat.exists_eq_succ_of_ne_zero (show f ≠ 0 by omega)
    obtain ⟨a', h1, h2⟩ | h := hs f i a (by omega) hp (by omega)
    · show Q (L (f + 1) i a)
      rw [h2]
      exact ih (i + 1) f a' (by omega) (by omega) h1
    · exact h
