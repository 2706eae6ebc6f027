/-! ===== PURE: longs that are no less than 0; numbers in digits ===== -/
theorem i64t {m : Nat} (h : m < 9223372036854775808) : (Int64.ofNat m).toInt = (m : Int) := Int64.toInt_ofNat_of_lt h
theorem i64div {a b : Nat} (ha : a < 9223372036854775808) (hb : b < 9223372036854775808) : Int64.ofNat a / Int64.ofNat b = Int64.ofNat (a / b) := by
  have hq : a / b < 9223372036854775808 := Nat.lt_of_le_of_lt (Nat.div_le_self a b) ha
  refine Int64.toInt.inj ?_
  rw [Int64.toInt_div_of_ne_right _ _ (fun q => ?_), i64t ha, i64t hb, i64t hq]
  · exact (Int.ofNat_tdiv a b).symm ▸ rfl
  · have := congrArg Int64.toInt q
    rw [i64t hb] at this
    have e : (-1 : Int64).toInt = -1 := by decide
    omega
theorem i64eq {a b : Nat} (ha : a < 9223372036854775808) (hb : b < 9223372036854775808) : (Int64.ofNat a = Int64.ofNat b) ↔ a = b := by
  constructor
  · intro h
    have := congrArg Int64.toInt h
    rw [i64t ha, i64t hb] at this
    omega
  · intro h
    rw [h]
theorem i64lt {a b : Nat} (ha : a < 9223372036854775808) (hb : b < 9223372036854775808) : (Int64.ofNat a < Int64.ofNat b) ↔ a < b := by
  rw [Int64.lt_iff_toInt_lt, i64t ha, i64t hb]
  omega
theorem lg_le {a b : Nat} (ha : a < 9223372036854775808) (hb : b < 9223372036854775808) : (lg_cmp (Int64.ofNat a) (Int64.ofNat b) ≤ Int32.ofNat 0) = (a ≤ b) := by
  unfold lg_cmp
  apply propext
  by_cases c : b < a
  · rw [if_pos (show Int64.ofNat a > Int64.ofNat b from (i64lt hb ha).mpr c)]
    exact ⟨fun q => absurd q (by decide), fun q => by omega⟩
  · rw [if_neg (fun q => c ((i64lt hb ha).mp q))]
    refine ⟨fun _ => by omega, fun _ => ?_⟩
    split
    · decide
    · decide
theorem i64of32 {m : Nat} (h : m < 2147483648) : Int32.toInt64 (Int32.ofNat m) = Int64.ofNat m := by
  refine Int64.toInt.inj ?_
  rw [Int32.toInt_toInt64, i32t h, i64t (by omega)]
/-- how great it is -/
def wN (z : Int32) : Nat := z.toInt.natAbs
theorem wN_le (z : Int32) : wN z ≤ 2147483648 := by
  have h1 := Int32.toInt_lt z
  have h2 := Int32.le_toInt z
  unfold wN
  omega
theorem neg64 {z : Int32} (h : z < 0) : -(Int32.toInt64 z) = Int64.ofNat (wN z) := by
  have hw := wN_le z
  have h1 := Int32.lt_iff_toInt_lt.mp h
  have h0 : (0 : Int32).toInt = 0 := by decide
  have h2 := Int32.le_toInt z
  refine Int64.toInt.inj ?_
  have e : (2 : Int) ^ 31 = 2147483648 := by decide
  have e6 : (2 : Nat) ^ 64 = 18446744073709551616 := by decide
  rw [i64t (by omega), Int64.toInt_neg, Int32.toInt_toInt64, e6, Int.bmod_eq_of_le (by omega) (by omega)]
  unfold wN
  omega
theorem pos64 {z : Int32} (h : ¬ z < 0) : Int32.toInt64 z = Int64.ofNat (wN z) := by
  obtain ⟨m, h1, rfl⟩ := i32of h
  rw [i64of32 h1]
  unfold wN
  rw [i32t h1]
  rfl
/-- its digits, the least first -/
def dg (w : Nat) : Int32 := Int32.ofNat (48 + w % 10)
def dgL : Nat → Nat → List Int32
  | 0, w => [dg w]
  | f + 1, w => if w < 10 then [dg w] else dg w :: dgL f (w / 10)
def dgP (w : Nat) : Nat → List Int32
  | 0 => [dg w]
  | i + 1 => dg (w / 10 ^ (i + 1)) :: dgP w i
theorem dgP_10 (w : Nat) : ∀ i, dgP w (i + 1) = dgP (w / 10) i ++ [dg w]
  | 0 => by
    show [dg (w / 10 ^ (0 + 1)), dg w] = [dg (w / 10), dg w]
    rw [Nat.zero_add, Nat.pow_one]
  | i + 1 => by
    show dg (w / 10 ^ (i + 1 + 1)) :: dgP w (i + 1) = (dg (w / 10 / 10 ^ (i + 1)) :: dgP (w / 10) i) ++ [dg w]
    rw [dgP_10 w i, Nat.div_div_eq_div_mul, ← Nat.pow_succ']
    rfl
theorem dgL_len : ∀ f w, 1 ≤ (dgL f w).length ∧ (dgL f w).length ≤ f + 1
  | 0, w => ⟨Nat.le_refl _, Nat.le_refl _⟩
  | f + 1, w => by
    unfold dgL
    split
    · exact ⟨Nat.le_refl _, by show 1 ≤ f + 1 + 1; omega⟩
    · have := dgL_len f (w / 10)
      rw [List.length_cons]
      omega
theorem dgL_rev : ∀ f w, w < 10 ^ (f + 1) → (dgL f w).reverse = dgP w ((dgL f w).length - 1)
  | 0, w, h => rfl
  | f + 1, w, h => by
    unfold dgL
    split
    · rfl
    · have hl := dgL_len f (w / 10)
      rw [List.reverse_cons, List.length_cons, dgL_rev f (w / 10) (by
        rw [Nat.pow_succ] at h
        omega), Nat.add_sub_cancel]
      have e : (dgL f (w / 10)).length = ((dgL f (w / 10)).length - 1) + 1 := by omega
      generalize (dgL f (w / 10)).length - 1 = n at e
      rw [e, dgP_10]
/-- its first digit stands where w / by is no more than 9 -/
theorem dgL_top : ∀ f w, w < 10 ^ (f + 1) → w / 10 ^ ((dgL f w).length - 1) ≤ 9 ∧ ∀ j, j < (dgL f w).length - 1 → 9 < w / 10 ^ j
  | 0, w, h => by
    show w / 10 ^ 0 ≤ 9 ∧ _
    rw [Nat.pow_zero, Nat.div_one]
    refine ⟨by rw [Nat.zero_add, Nat.pow_one] at h; omega, fun j hj => ?_⟩
    have hj : j < 1 - 1 := hj
    omega
  | f + 1, w, h => by
    unfold dgL
    split
    · rename_i c
      show w / 10 ^ 0 ≤ 9 ∧ _
      rw [Nat.pow_zero, Nat.div_one]
      refine ⟨by omega, fun j hj => ?_⟩
      have hj : j < 1 - 1 := hj
      omega
    · rename_i c
      have hl := dgL_len f (w / 10)
      obtain ⟨h1, h2⟩ := dgL_top f (w / 10) (by
        rw [Nat.pow_succ] at h
        omega)
      rw [List.length_cons, Nat.add_sub_cancel]
      have e : (dgL f (w / 10)).length = ((dgL f (w / 10)).length - 1) + 1 := by omega
      generalize (dgL f (w / 10)).length - 1 = n at e h1 h2
      rw [e]
      rw [Nat.div_div_eq_div_mul, ← Nat.pow_succ'] at h1
      refine ⟨h1, fun j hj => ?_⟩
      cases j with
      | zero =>
        rw [Nat.pow_zero, Nat.div_one]
        omega
      | succ j =>
        have := h2 j (by omega)
        rw [Nat.div_div_eq_div_mul, ← Nat.pow_succ'] at this
        exact this
/-- an INT as it is told -/
def numL (z : Int32) : List Int32 := (if z < 0 then [45] else []) ++ (dgL 9 (wN z)).reverse
