/-! ===== accessors behind changes (printed by program: gen44.py) ===== -/
section K4
variable (t : cS)
theorem kI_jI (k f : Nat) (x : Int32) (a b : Nat) : kI (jI t k f x) a b = (if a = k ∧ b = f then x else kI t a b) := rfl
theorem kL_jI (k f : Nat) (x : Int32) : kL (jI t k f x) = kL t := rfl
theorem kP_jI (k f : Nat) (x : Int32) : kP (jI t k f x) = kP t := rfl
theorem kA_jI (k f : Nat) (x : Int32) : kA (jI t k f x) = kA t := rfl
theorem kB_jI (k f : Nat) (x : Int32) : kB (jI t k f x) = kB t := rfl
theorem kM_jI (k f : Nat) (x : Int32) : kM (jI t k f x) = kM t := rfl
theorem kD_jI (k f : Nat) (x : Int32) : kD (jI t k f x) = kD t := rfl
theorem kZ_jI (k f : Nat) (x : Int32) : kZ (jI t k f x) = kZ t := rfl
theorem kH_jI (k f : Nat) (x : Int32) : kH (jI t k f x) = kH t := rfl
theorem kN_jI (k f : Nat) (x : Int32) : kN (jI t k f x) = kN t := rfl
theorem kQ_jI (k f : Nat) (x : Int32) : kQ (jI t k f x) = kQ t := rfl
theorem kI_jL (k f : Nat) (x : Int64) : kI (jL t k f x) = kI t := rfl
theorem kL_jL (k f : Nat) (x : Int64) (a b : Nat) : kL (jL t k f x) a b = (if a = k ∧ b = f then x else kL t a b) := rfl
theorem kP_jL (k f : Nat) (x : Int64) : kP (jL t k f x) = kP t := rfl
theorem kA_jL (k f : Nat) (x : Int64) : kA (jL t k f x) = kA t := rfl
theorem kB_jL (k f : Nat) (x : Int64) : kB (jL t k f x) = kB t := rfl
theorem kM_jL (k f : Nat) (x : Int64) : kM (jL t k f x) = kM t := rfl
theorem kD_jL (k f : Nat) (x : Int64) : kD (jL t k f x) = kD t := rfl
theorem kZ_jL (k f : Nat) (x : Int64) : kZ (jL t k f x) = kZ t := rfl
theorem kH_jL (k f : Nat) (x : Int64) : kH (jL t k f x) = kH t := rfl
theorem kN_jL (k f : Nat) (x : Int64) : kN (jL t k f x) = kN t := rfl
theorem kQ_jL (k f : Nat) (x : Int64) : kQ (jL t k f x) = kQ t := rfl
theorem kI_jP (k f : Nat) (x : Option Nat) : kI (jP t k f x) = kI t := rfl
theorem kL_jP (k f : Nat) (x : Option Nat) : kL (jP t k f x) = kL t := rfl
theorem kP_jP (k f : Nat) (x : Option Nat) (a b : Nat) : kP (jP t k f x) a b = (if a = k ∧ b = f then x else kP t a b) := rfl
theorem kA_jP (k f : Nat) (x : Option Nat) : kA (jP t k f x) = kA t := rfl
theorem kB_jP (k f : Nat) (x : Option Nat) : kB (jP t k f x) = kB t := rfl
theorem kM_jP (k f : Nat) (x : Option Nat) : kM (jP t k f x) = kM t := rfl
theorem kD_jP (k f : Nat) (x : Option Nat) : kD (jP t k f x) = kD t := rfl
theorem kZ_jP (k f : Nat) (x : Option Nat) : kZ (jP t k f x) = kZ t := rfl
theorem kH_jP (k f : Nat) (x : Option Nat) : kH (jP t k f x) = kH t := rfl
theorem kN_jP (k f : Nat) (x : Option Nat) : kN (jP t k f x) = kN t := rfl
theorem kQ_jP (k f : Nat) (x : Option Nat) : kQ (jP t k f x) = kQ t := rfl
theorem kI_jA (k : Nat) (g : Nat → Int32) : kI (jA t k g) = kI t := rfl
theorem kL_jA (k : Nat) (g : Nat → Int32) : kL (jA t k g) = kL t := rfl
theorem kP_jA (k : Nat) (g : Nat → Int32) : kP (jA t k g) = kP t := rfl
theorem kA_jA (k : Nat) (g : Nat → Int32) (a : Nat) : kA (jA t k g) a = (if a = k then ((kA t k).1, g) else kA t a) := rfl
theorem kB_jA (k : Nat) (g : Nat → Int32) : kB (jA t k g) = kB t := rfl
theorem kM_jA (k : Nat) (g : Nat → Int32) : kM (jA t k g) = kM t := rfl
theorem kD_jA (k : Nat) (g : Nat → Int32) : kD (jA t k g) = kD t := rfl
theorem kZ_jA (k : Nat) (g : Nat → Int32) : kZ (jA t k g) = kZ t := rfl
theorem kH_jA (k : Nat) (g : Nat → Int32) : kH (jA t k g) = kH t := rfl
theorem kN_jA (k : Nat) (g : Nat → Int32) : kN (jA t k g) = kN t := rfl
theorem kQ_jA (k : Nat) (g : Nat → Int32) : kQ (jA t k g) = kQ t := rfl
theorem kI_jB (k : Nat) (g : Nat → Int64) : kI (jB t k g) = kI t := rfl
theorem kL_jB (k : Nat) (g : Nat → Int64) : kL (jB t k g) = kL t := rfl
theorem kP_jB (k : Nat) (g : Nat → Int64) : kP (jB t k g) = kP t := rfl
theorem kA_jB (k : Nat) (g : Nat → Int64) : kA (jB t k g) = kA t := rfl
theorem kB_jB (k : Nat) (g : Nat → Int64) (a : Nat) : kB (jB t k g) a = (if a = k then ((kB t k).1, g) else kB t a) := rfl
theorem kM_jB (k : Nat) (g : Nat → Int64) : kM (jB t k g) = kM t := rfl
theorem kD_jB (k : Nat) (g : Nat → Int64) : kD (jB t k g) = kD t := rfl
theorem kZ_jB (k : Nat) (g : Nat → Int64) : kZ (jB t k g) = kZ t := rfl
theorem kH_jB (k : Nat) (g : Nat → Int64) : kH (jB t k g) = kH t := rfl
theorem kN_jB (k : Nat) (g : Nat → Int64) : kN (jB t k g) = kN t := rfl
theorem kQ_jB (k : Nat) (g : Nat → Int64) : kQ (jB t k g) = kQ t := rfl
theorem kI_jM (g : Nat → Option Nat) : kI (jM t g) = kI t := rfl
theorem kL_jM (g : Nat → Option Nat) : kL (jM t g) = kL t := rfl
theorem kP_jM (g : Nat → Option Nat) : kP (jM t g) = kP t := rfl
theorem kA_jM (g : Nat → Option Nat) : kA (jM t g) = kA t := rfl
theorem kB_jM (g : Nat → Option Nat) : kB (jM t g) = kB t := rfl
theorem kM_jM (g : Nat → Option Nat)  : kM (jM t g)  = (g) := rfl
theorem kD_jM (g : Nat → Option Nat) : kD (jM t g) = kD t := rfl
theorem kZ_jM (g : Nat → Option Nat) : kZ (jM t g) = kZ t := rfl
theorem kH_jM (g : Nat → Option Nat) : kH (jM t g) = kH t := rfl
theorem kN_jM (g : Nat → Option Nat) : kN (jM t g) = kN t := rfl
theorem kQ_jM (g : Nat → Option Nat) : kQ (jM t g) = kQ t := rfl
theorem kI_jNI (z n : Nat) (g : Nat → Int32) : kI (jNI t z n g) = kI t := rfl
theorem kL_jNI (z n : Nat) (g : Nat → Int32) : kL (jNI t z n g) = kL t := rfl
theorem kP_jNI (z n : Nat) (g : Nat → Int32) : kP (jNI t z n g) = kP t := rfl
theorem kA_jNI (z n : Nat) (g : Nat → Int32) (a : Nat) : kA (jNI t z n g) a = (if a = 111 then (n, g) else kA t a) := rfl
theorem kB_jNI (z n : Nat) (g : Nat → Int32) : kB (jNI t z n g) = kB t := rfl
theorem kM_jNI (z n : Nat) (g : Nat → Int32) : kM (jNI t z n g) = kM t := rfl
theorem kD_jNI (z n : Nat) (g : Nat → Int32) (a : Nat) : kD (jNI t z n g) a = (if a = 111 then kN t else kD t a) := rfl
theorem kZ_jNI (z n : Nat) (g : Nat → Int32)  : kZ (jNI t z n g)  = (z) := rfl
theorem kH_jNI (z n : Nat) (g : Nat → Int32) : kH (jNI t z n g) = kH t := rfl
theorem kN_jNI (z n : Nat) (g : Nat → Int32)  : kN (jNI t z n g)  = (kN t + 1) := rfl
theorem kQ_jNI (z n : Nat) (g : Nat → Int32)  : kQ (jNI t z n g)  = (kQ t + n) := rfl
theorem kI_jNL (n : Nat) (g : Nat → Int64) : kI (jNL t n g) = kI t := rfl
theorem kL_jNL (n : Nat) (g : Nat → Int64) : kL (jNL t n g) = kL t := rfl
theorem kP_jNL (n : Nat) (g : Nat → Int64) : kP (jNL t n g) = kP t := rfl
theorem kA_jNL (n : Nat) (g : Nat → Int64) : kA (jNL t n g) = kA t := rfl
theorem kB_jNL (n : Nat) (g : Nat → Int64) (a : Nat) : kB (jNL t n g) a = (if a = 111 then (n, g) else kB t a) := rfl
theorem kM_jNL (n : Nat) (g : Nat → Int64) : kM (jNL t n g) = kM t := rfl
theorem kD_jNL (n : Nat) (g : Nat → Int64) (a : Nat) : kD (jNL t n g) a = (if a = 111 then kN t else kD t a) := rfl
theorem kZ_jNL (n : Nat) (g : Nat → Int64)  : kZ (jNL t n g)  = (2) := rfl
theorem kH_jNL (n : Nat) (g : Nat → Int64) : kH (jNL t n g) = kH t := rfl
theorem kN_jNL (n : Nat) (g : Nat → Int64)  : kN (jNL t n g)  = (kN t + 1) := rfl
theorem kQ_jNL (n : Nat) (g : Nat → Int64)  : kQ (jNL t n g)  = (kQ t + n) := rfl
theorem kI_jMv (k : Nat) : kI (jMv t k) = kI t := rfl
theorem kL_jMv (k : Nat) : kL (jMv t k) = kL t := rfl
theorem kP_jMv (k : Nat) : kP (jMv t k) = kP t := rfl
theorem kA_jMv (k : Nat) (a : Nat) : kA (jMv t k) a = (if a = k then kA t 111 else kA t a) := rfl
theorem kB_jMv (k : Nat) (a : Nat) : kB (jMv t k) a = (if a = k then kB t 111 else kB t a) := rfl
theorem kM_jMv (k : Nat) : kM (jMv t k) = kM t := rfl
theorem kD_jMv (k : Nat) (a : Nat) : kD (jMv t k) a = (if a = k then kD t 111 else kD t a) := rfl
theorem kZ_jMv (k : Nat)  : kZ (jMv t k)  = (0) := rfl
theorem kH_jMv (k : Nat) : kH (jMv t k) = kH t := rfl
theorem kN_jMv (k : Nat) : kN (jMv t k) = kN t := rfl
theorem kQ_jMv (k : Nat) : kQ (jMv t k) = kQ t := rfl
theorem kI_jX (n : Nat) : kI (jX t n) = kI t := rfl
theorem kL_jX (n : Nat) : kL (jX t n) = kL t := rfl
theorem kP_jX (n : Nat) : kP (jX t n) = kP t := rfl
theorem kA_jX (n : Nat) : kA (jX t n) = kA t := rfl
theorem kB_jX (n : Nat) : kB (jX t n) = kB t := rfl
theorem kM_jX (n : Nat) : kM (jX t n) = kM t := rfl
theorem kD_jX (n : Nat) : kD (jX t n) = kD t := rfl
theorem kZ_jX (n : Nat) : kZ (jX t n) = kZ t := rfl
theorem kH_jX (n : Nat) : kH (jX t n) = kH t := rfl
theorem kN_jX (n : Nat)  : kN (jX t n)  = (kN t + 1) := rfl
theorem kQ_jX (n : Nat)  : kQ (jX t n)  = (kQ t + n) := rfl
end K4
/-! the same of the reference -/
section M4
variable (s : mS)
theorem m0_mI (k : Nat) (x : Int32) (q : Nat) : (mI s k x).1 q = (if q = k then x else s.1 q) := rfl
theorem m1_mI (k : Nat) (x : Int32) : (mI s k x).2.1 = s.2.1 := rfl
theorem m2_mI (k : Nat) (x : Int32) : (mI s k x).2.2.1 = s.2.2.1 := rfl
theorem m3_mI (k : Nat) (x : Int32) : (mI s k x).2.2.2 = s.2.2.2 := rfl
theorem m0_mL (k : Nat) (x : Int64) : (mL s k x).1 = s.1 := rfl
theorem m1_mL (k : Nat) (x : Int64) (q : Nat) : (mL s k x).2.1 q = (if q = k then x else s.2.1 q) := rfl
theorem m2_mL (k : Nat) (x : Int64) : (mL s k x).2.2.1 = s.2.2.1 := rfl
theorem m3_mL (k : Nat) (x : Int64) : (mL s k x).2.2.2 = s.2.2.2 := rfl
theorem m0_mA (k : Nat) (f : Nat → Int32) : (mA s k f).1 = s.1 := rfl
theorem m1_mA (k : Nat) (f : Nat → Int32) : (mA s k f).2.1 = s.2.1 := rfl
theorem m2_mA (k : Nat) (f : Nat → Int32) (q : Nat) : (mA s k f).2.2.1 q = (if q = k then f else s.2.2.1 q) := rfl
theorem m3_mA (k : Nat) (f : Nat → Int32) : (mA s k f).2.2.2 = s.2.2.2 := rfl
theorem m0_mB (k : Nat) (f : Nat → Int64) : (mB s k f).1 = s.1 := rfl
theorem m1_mB (k : Nat) (f : Nat → Int64) : (mB s k f).2.1 = s.2.1 := rfl
theorem m2_mB (k : Nat) (f : Nat → Int64) : (mB s k f).2.2.1 = s.2.2.1 := rfl
theorem m3_mB (k : Nat) (f : Nat → Int64) (q : Nat) : (mB s k f).2.2.2 q = (if q = k then f else s.2.2.2 q) := rfl
end M4
