/-! ===== PURE: the text, blanks ===== -/
/-- a byte as the class reads it -/
def sb (k : Nat) : Int32 := if k < 128 then Int32.ofNat k else -Int32.ofNat (256 - k)
theorem negt {m : Nat} (h : m ≤ 2147483647) : (-Int32.ofNat m).toInt = -(m : Int) := by
  have e6 : (2 : Nat) ^ 32 = 4294967296 := by decide
  rw [Int32.toInt_neg, i32t (by omega), e6, Int.bmod_eq_of_le (by omega) (by omega)]
theorem ev_g1 {m a : Nat} (h1 : 1 ≤ m) (h2 : m ≤ 2147483647) (h : a < 2147483648) : (-Int32.ofNat m < Int32.ofNat a) = True := eq_true (by
  rw [Int32.lt_iff_toInt_lt, i32t h, negt h2]
  omega)
theorem ev_g2 {m a : Nat} (h1 : 1 ≤ m) (h2 : m ≤ 2147483647) (h : a < 2147483648) : (-Int32.ofNat m ≤ Int32.ofNat a) = True := eq_true (by
  rw [Int32.le_iff_toInt_le, i32t h, negt h2]
  omega)
theorem ev_g3 {m a : Nat} (h1 : 1 ≤ m) (h2 : m ≤ 2147483647) (h : a < 2147483648) : (Int32.ofNat a < -Int32.ofNat m) = False := eq_false (by
  rw [Int32.lt_iff_toInt_lt, i32t h, negt h2]
  omega)
theorem ev_g4 {m a : Nat} (h1 : 1 ≤ m) (h2 : m ≤ 2147483647) (h : a < 2147483648) : (Int32.ofNat a ≤ -Int32.ofNat m) = False := eq_false (by
  rw [Int32.le_iff_toInt_le, i32t h, negt h2]
  omega)
theorem ev_g5 {m a : Nat} (h1 : 1 ≤ m) (h2 : m ≤ 2147483647) (h : a < 2147483648) : (-Int32.ofNat m = Int32.ofNat a) = False := eq_false (fun q => by
  have := congrArg Int32.toInt q
  rw [i32t h, negt h2] at this
  omega)
theorem ev_g6 {m a : Nat} (h1 : 1 ≤ m) (h2 : m ≤ 2147483647) (h : a < 2147483648) : (Int32.ofNat a = -Int32.ofNat m) = False := eq_false (fun q => by
  have := congrArg Int32.toInt q
  rw [i32t h, negt h2] at this
  omega)
/-- both have the text: n bytes b -/
def cTx (t : cS) (x1 : Nat) (b : Nat → Nat) (n : Nat) : Prop := kD t 1 = x1 ∧ n ≤ (kA t 1).1 ∧ (kA t 1).1 ≤ 1620 ∧ n ≤ 1600 ∧ (∀ i, b i < 256) ∧ ∀ i, i < n → (kA t 1).2 i = sb (b i)
def rTx (s : mS) (b : Nat → Nat) (n : Nat) : Prop := s.1 4 = Int32.ofNat n ∧ n ≤ 1600 ∧ (∀ i, b i < 256) ∧ ∀ i, i < n → s.2.2.1 2 i &&& 255 = Int32.ofNat (b i)
/-- the first place from a on that is neither blank nor in a remark (r: in one) -/
def skF (b : Nat → Nat) (n : Nat) : Nat → Bool → Nat → Nat
  | 0, _, a => a
  | f + 1, r, a => if a < n then (if b a = 10 then skF b n f false (a + 1) else if b a = 35 then skF b n f true (a + 1) else if b a = 32 ∨ r = true then skF b n f r (a + 1) else a) else a
def sk (b : Nat → Nat) (n a : Nat) : Nat := skF b n (n - a) false a
theorem skF_le {b : Nat → Nat} {n : Nat} : ∀ (f : Nat) (r : Bool) (a : Nat), a ≤ n → a ≤ skF b n f r a ∧ skF b n f r a ≤ n
  | 0, r, a, h => ⟨Nat.le_refl _, h⟩
  | f + 1, r, a, h => by
    unfold skF
    split
    · split
      · have := skF_le (b := b) (n := n) f false (a + 1) (by omega)
        omega
      · split
        · have := skF_le (b := b) (n := n) f true (a + 1) (by omega)
          omega
        · split
          · have := skF_le (b := b) (n := n) f r (a + 1) (by omega)
            omega
          · omega
    · omega
section BLK
variable {N : Nat} {X : Nat → Option zz_C} {t : cS} {s : mS} {b : Nat → Nat} {n x1 : Nat}
theorem c_skip (h : cTx t x1 b n) : ∀ (f a q : Nat) (r : Bool), a + f = n → cf_43_L2 N X (q + (f + 1)) 0 x1 (Int32.ofNat n) (if r then Int32.ofNat 1 else Int32.ofNat 0) (Int32.ofNat a) t = some (t, .inl (some (.int (Int32.ofNat (skF b n f r a))))) := by
  obtain ⟨h1, h2, h3, h4, h5, h6⟩ := h
  intro f
  induction f with
  | zero =>
    intro a q r ha
    have ha : a = n := ha
    subst ha
    show cf_43_5 N X (cf_43_L2 N X q) x1 (Int32.ofNat a) _ (Int32.ofNat a) t = _
    unfold cf_43_5 cf_43_61
    simp (disch := omega) only [ev_S, ev_C, ↓reduceIte, Nat.reduceEqDiff, Nat.reduceLeDiff, Nat.reduceAdd, Nat.reduceMul, Nat.reduceSub, reduceCtorEq, l32_0, l32_1, l32_2, l32_3, l32_4, l32_5, l32_6, l32_7, l32_8, l32_9, l32_10, h1]
    rfl
  | succ f ih =>
    intro a q r ha
    have ha1 : a < n := by omega
    have hb := h5 a
    have hc := h6 a ha1
    have i1 := ih (a + 1) q false (by omega)
    have i2 := ih (a + 1) q true (by omega)
    have i3 := ih (a + 1) q r (by omega)
    rw [if_neg (by decide)] at i1
    rw [if_pos rfl] at i2
    have e43 : cf_43_L2 N X (q + (f + 1 + 1)) 0 x1 (Int32.ofNat n) (if r then Int32.ofNat 1 else Int32.ofNat 0) (Int32.ofNat a) t = cf_43_5 N X (cf_43_L2 N X (q + (f + 1))) x1 (Int32.ofNat n) (if r then Int32.ofNat 1 else Int32.ofNat 0) (Int32.ofNat a) t := rfl
    rw [e43]
    have hs : skF b n (f + 1) r a = (if b a = 10 then skF b n f false (a + 1) else if b a = 35 then skF b n f true (a + 1) else if b a = 32 ∨ r = true then skF b n f r (a + 1) else a) := if_pos ha1
    rw [hs]
    unfold sb at hc
    by_cases c10 : b a = 10
    · rw [if_pos (by omega), c10] at hc
      rw [if_pos c10]
      repeat ((first | unfold cf_43 | unfold cf_43_0 | unfold cf_43_5 | unfold cf_43_11 | unfold cf_43_24 | unfold cf_43_29 | unfold cf_43_36 | unfold cf_43_41 | unfold cf_43_48 | unfold cf_43_52 | unfold cf_43_55 | unfold cf_43_61); try simp (disch := omega) only [ev_S, ev_C, ↓reduceIte, Nat.reduceEqDiff, Nat.reduceLeDiff, Nat.reduceAdd, Nat.reduceMul, Nat.reduceSub, reduceCtorEq, l32_0, l32_1, l32_2, l32_3, l32_4, l32_10, l32_32, l32_35, h1, hc, i1, l32_10])
    · rw [if_neg c10]
      by_cases c35 : b a = 35
      · rw [if_pos (by omega), c35] at hc
        rw [if_pos c35]
        repeat ((first | unfold cf_43 | unfold cf_43_0 | unfold cf_43_5 | unfold cf_43_11 | unfold cf_43_24 | unfold cf_43_29 | unfold cf_43_36 | unfold cf_43_41 | unfold cf_43_48 | unfold cf_43_52 | unfold cf_43_55 | unfold cf_43_61); try simp (disch := omega) only [ev_S, ev_C, ↓reduceIte, Nat.reduceEqDiff, Nat.reduceLeDiff, Nat.reduceAdd, Nat.reduceMul, Nat.reduceSub, reduceCtorEq, l32_0, l32_1, l32_2, l32_3, l32_4, l32_10, l32_32, l32_35, h1, hc, i2, l32_35])
      · rw [if_neg c35]
        by_cases c32 : b a = 32
        · rw [if_pos (by omega), c32] at hc
          rw [if_pos (Or.inl c32)]
          repeat ((first | unfold cf_43 | unfold cf_43_0 | unfold cf_43_5 | unfold cf_43_11 | unfold cf_43_24 | unfold cf_43_29 | unfold cf_43_36 | unfold cf_43_41 | unfold cf_43_48 | unfold cf_43_52 | unfold cf_43_55 | unfold cf_43_61); try simp (disch := omega) only [ev_S, ev_C, ↓reduceIte, Nat.reduceEqDiff, Nat.reduceLeDiff, Nat.reduceAdd, Nat.reduceMul, Nat.reduceSub, reduceCtorEq, l32_0, l32_1, l32_2, l32_3, l32_4, l32_10, l32_32, l32_35, h1, hc, i3, l32_32])
        · cases r with
          | true =>
            rw [if_pos (Or.inr rfl)]
            rw [if_pos rfl] at i3 ⊢
            by_cases c8 : b a < 128
            · rw [if_pos c8] at hc
              repeat ((first | unfold cf_43 | unfold cf_43_0 | unfold cf_43_5 | unfold cf_43_11 | unfold cf_43_24 | unfold cf_43_29 | unfold cf_43_36 | unfold cf_43_41 | unfold cf_43_48 | unfold cf_43_52 | unfold cf_43_55 | unfold cf_43_61); try simp (disch := omega) only [ev_S, ev_C, ↓reduceIte, Nat.reduceEqDiff, Nat.reduceLeDiff, Nat.reduceAdd, Nat.reduceMul, Nat.reduceSub, reduceCtorEq, l32_0, l32_1, l32_2, l32_3, l32_4, l32_10, l32_32, l32_35, h1, hc, i3, l32_10, l32_35, l32_32])
            · rw [if_neg c8] at hc
              repeat ((first | unfold cf_43 | unfold cf_43_0 | unfold cf_43_5 | unfold cf_43_11 | unfold cf_43_24 | unfold cf_43_29 | unfold cf_43_36 | unfold cf_43_41 | unfold cf_43_48 | unfold cf_43_52 | unfold cf_43_55 | unfold cf_43_61); try simp (disch := omega) only [ev_S, ev_C, ↓reduceIte, Nat.reduceEqDiff, Nat.reduceLeDiff, Nat.reduceAdd, Nat.reduceMul, Nat.reduceSub, reduceCtorEq, l32_0, l32_1, l32_2, l32_3, l32_4, l32_10, l32_32, l32_35, h1, hc, i3, ev_g5, l32_10, l32_35, l32_32])
          | false =>
            have e9 : (if b a = 32 ∨ false = true then skF b n f false (a + 1) else a) = a := if_neg (fun q => q.elim c32 (by decide))
            rw [e9, if_neg (by decide)]
            by_cases c8 : b a < 128
            · rw [if_pos c8] at hc
              repeat ((first | unfold cf_43 | unfold cf_43_0 | unfold cf_43_5 | unfold cf_43_11 | unfold cf_43_24 | unfold cf_43_29 | unfold cf_43_36 | unfold cf_43_41 | unfold cf_43_48 | unfold cf_43_52 | unfold cf_43_55 | unfold cf_43_61); try simp (disch := omega) only [ev_S, ev_C, ↓reduceIte, Nat.reduceEqDiff, Nat.reduceLeDiff, Nat.reduceAdd, Nat.reduceMul, Nat.reduceSub, reduceCtorEq, l32_0, l32_1, l32_2, l32_3, l32_4, l32_10, l32_32, l32_35, h1, hc, l32_10, l32_35, l32_32])
            · rw [if_neg c8] at hc
              repeat ((first | unfold cf_43 | unfold cf_43_0 | unfold cf_43_5 | unfold cf_43_11 | unfold cf_43_24 | unfold cf_43_29 | unfold cf_43_36 | unfold cf_43_41 | unfold cf_43_48 | unfold cf_43_52 | unfold cf_43_55 | unfold cf_43_61); try simp (disch := omega) only [ev_S, ev_C, ↓reduceIte, Nat.reduceEqDiff, Nat.reduceLeDiff, Nat.reduceAdd, Nat.reduceMul, Nat.reduceSub, reduceCtorEq, l32_0, l32_1, l32_2, l32_3, l32_4, l32_10, l32_32, l32_35, h1, hc, ev_g5, l32_10, l32_35, l32_32])
theorem c_skipBlanks (hN : 170000 ≤ N) (h : cTx t x1 b n) {a : Nat} (ha : a ≤ n) : cf_43 N X x1 (Int32.ofNat n) (Int32.ofNat a) t = some (t, .inl (some (.int (Int32.ofNat (sk b n a))))) := by
  have h4 := h.2.2.2.1
  have e := c_skip (N := N) (X := X) h (n - a) a (N - (n - a + 1)) false (by omega)
  rw [show N - (n - a + 1) + (n - a + 1) = N by omega, if_neg (by decide)] at e
  exact e
theorem r_byte (h : rTx s b n) {a : Nat} (ha : a < 2147483648) : mf_62 N (Int32.ofNat a) s = some (s, some (.int (Int32.ofNat (if a < n then b a else 0)))) := by
  obtain ⟨h1, h2, h3, h4⟩ := h
  by_cases c : a < n
  · have hc := h4 a c
    rw [if_pos c]
    have l255 : (255 : Int32) = Int32.ofNat 255 := rfl
    rw [l255] at hc
    repeat ((first | unfold mf_62 | unfold mf_62_0 | unfold mf_62_8 | unfold mf_62_21 | unfold mf_62_22); try simp (disch := omega) only [ev_S, ev_P, ↓reduceIte, Nat.reduceEqDiff, Nat.reduceLeDiff, Nat.reduceAdd, Nat.reduceMul, Nat.reduceSub, reduceCtorEq, l32_0, l32_1, l32_2, l32_3, l32_4, l32_255, l32_1620, h1, hc, l32_255])
  · rw [if_neg c]
    repeat ((first | unfold mf_62 | unfold mf_62_0 | unfold mf_62_8 | unfold mf_62_21 | unfold mf_62_22); try simp (disch := omega) only [ev_S, ev_P, ↓reduceIte, Nat.reduceEqDiff, Nat.reduceLeDiff, Nat.reduceAdd, Nat.reduceMul, Nat.reduceSub, reduceCtorEq, l32_0, l32_1, l32_2, l32_3, l32_4, l32_255, l32_1620, h1])
theorem r_skip (h : rTx s b n) : ∀ (f a : Nat) (r : Bool), a + f = n → ∃ k, k ≤ 3 * f + 3 ∧ ∀ q, mf_61_L1 N (q + k) (if r then 1 else 0) (Int32.ofNat a) (Int32.ofNat 1) s = some (s, some (.int (Int32.ofNat (skF b n f r a)))) := by
  have h' := h
  obtain ⟨h1, h2, h3, h4⟩ := h'
  have e0 : ∀ q a x, mf_61_L1 N (q + 1) 0 a x s = mf_61_4 N (mf_61_L1 N q) a x s := fun _ _ _ => rfl
  have e1 : ∀ q a x, mf_61_L1 N (q + 1) 1 a x s = mf_61_30 N (mf_61_L1 N q) a x s := fun _ _ _ => rfl
  intro f
  induction f with
  | zero =>
    intro a r ha
    have ha : a = n := ha
    subst ha
    have key : ∀ q, mf_61_L1 N (q + 1) 0 (Int32.ofNat a) (Int32.ofNat 1) s = some (s, some (.int (Int32.ofNat a))) := fun q => by
      rw [e0]
      unfold mf_61_4 mf_61_8 mf_61_79
      simp (disch := omega) only [ev_S, ev_P, ↓reduceIte, Nat.reduceEqDiff, Nat.reduceLeDiff, Nat.reduceAdd, Nat.reduceMul, Nat.reduceSub, reduceCtorEq, l32_0, l32_1, l32_2, l32_3, l32_4, l32_5, l32_6, l32_7, l32_8, l32_9, l32_10, h1]
    cases r with
    | false => exact ⟨1, by omega, key⟩
    | true =>
      refine ⟨2, by omega, fun q => ?_⟩
      rw [if_pos rfl]
      show mf_61_L1 N (q + 1 + 1) 1 _ _ s = _
      rw [e1]
      unfold mf_61_30 mf_61_76
      simp (disch := omega) only [ev_S, ev_P, ↓reduceIte, Nat.reduceEqDiff, Nat.reduceLeDiff, Nat.reduceAdd, Nat.reduceMul, Nat.reduceSub, reduceCtorEq, l32_0, l32_1, l32_2, l32_3, l32_4, l32_5, l32_6, l32_7, l32_8, l32_9, l32_10, h1, key]
      rfl
  | succ f ih =>
    intro a r ha
    have ha1 : a < n := by omega
    have hb := h3 a
    have hy := r_byte (N := N) h (a := a) (by omega)
    rw [if_pos ha1] at hy
    have hs : ∀ r, skF b n (f + 1) r a = (if b a = 10 then skF b n f false (a + 1) else if b a = 35 then skF b n f true (a + 1) else if b a = 32 ∨ r = true then skF b n f r (a + 1) else a) := fun _ => if_pos ha1
    -- out of a remark
    have key : ∃ k, k ≤ 3 * (f + 1) + 2 ∧ ∀ q, mf_61_L1 N (q + k) 0 (Int32.ofNat a) (Int32.ofNat 1) s = some (s, some (.int (Int32.ofNat (skF b n (f + 1) false a)))) := by
      rw [hs false]
      by_cases c10 : b a = 10
      · rw [if_pos c10]
        obtain ⟨k, k1, k2⟩ := ih (a + 1) false (by omega)
        refine ⟨k + 1, by omega, fun q => ?_⟩
        have k2 := k2 q
        rw [if_neg (by decide)] at k2
        rw [← Nat.add_assoc, e0]
        rw [c10] at hy
        repeat ((first | unfold mf_61 | unfold mf_61_0 | unfold mf_61_4 | unfold mf_61_8 | unfold mf_61_16 | unfold mf_61_21 | unfold mf_61_30 | unfold mf_61_38 | unfold mf_61_43 | unfold mf_61_48 | unfold mf_61_54 | unfold mf_61_61 | unfold mf_61_68 | unfold mf_61_74 | unfold mf_61_76 | unfold mf_61_79); try simp (disch := omega) only [ev_S, ev_P, ↓reduceIte, Nat.reduceEqDiff, Nat.reduceLeDiff, Nat.reduceAdd, Nat.reduceMul, Nat.reduceSub, reduceCtorEq, l32_0, l32_1, l32_2, l32_3, l32_4, l32_10, l32_32, l32_35, h1, hy, k2, l32_10, l32_35, l32_32])
      · rw [if_neg c10]
        by_cases c35 : b a = 35
        · rw [if_pos c35]
          obtain ⟨k, k1, k2⟩ := ih (a + 1) true (by omega)
          refine ⟨k + 1 + 1, by omega, fun q => ?_⟩
          have k2 := k2 q
          rw [if_pos rfl] at k2
          rw [show q + (k + 1 + 1) = q + k + 1 + 1 by omega, e0]
          rw [c35] at hy
          have e1' := e1 (q + k) (Int32.ofNat a) (Int32.ofNat 1)
          repeat ((first | unfold mf_61 | unfold mf_61_0 | unfold mf_61_4 | unfold mf_61_8 | unfold mf_61_16 | unfold mf_61_21 | unfold mf_61_30 | unfold mf_61_38 | unfold mf_61_43 | unfold mf_61_48 | unfold mf_61_54 | unfold mf_61_61 | unfold mf_61_68 | unfold mf_61_74 | unfold mf_61_76 | unfold mf_61_79); try simp (disch := omega) only [ev_S, ev_P, ↓reduceIte, Nat.reduceEqDiff, Nat.reduceLeDiff, Nat.reduceAdd, Nat.reduceMul, Nat.reduceSub, reduceCtorEq, l32_0, l32_1, l32_2, l32_3, l32_4, l32_10, l32_32, l32_35, h1, hy, e1', k2, l32_10, l32_35, l32_32])
        · rw [if_neg c35]
          by_cases c32 : b a = 32
          · rw [if_pos (Or.inl c32)]
            obtain ⟨k, k1, k2⟩ := ih (a + 1) false (by omega)
            refine ⟨k + 1, by omega, fun q => ?_⟩
            have k2 := k2 q
            rw [if_neg (by decide)] at k2
            rw [← Nat.add_assoc, e0]
            rw [c32] at hy
            repeat ((first | unfold mf_61 | unfold mf_61_0 | unfold mf_61_4 | unfold mf_61_8 | unfold mf_61_16 | unfold mf_61_21 | unfold mf_61_30 | unfold mf_61_38 | unfold mf_61_43 | unfold mf_61_48 | unfold mf_61_54 | unfold mf_61_61 | unfold mf_61_68 | unfold mf_61_74 | unfold mf_61_76 | unfold mf_61_79); try simp (disch := omega) only [ev_S, ev_P, ↓reduceIte, Nat.reduceEqDiff, Nat.reduceLeDiff, Nat.reduceAdd, Nat.reduceMul, Nat.reduceSub, reduceCtorEq, l32_0, l32_1, l32_2, l32_3, l32_4, l32_10, l32_32, l32_35, h1, hy, k2, l32_10, l32_35, l32_32])
          · have e9 : (if b a = 32 ∨ false = true then skF b n f false (a + 1) else a) = a := if_neg (fun q => q.elim c32 (by decide))
            rw [e9]
            refine ⟨2, by omega, fun q => ?_⟩
            have e00 : mf_61_L1 N (q + 1) 0 (Int32.ofNat a) (Int32.ofNat 0) s = some (s, some (.int (Int32.ofNat a))) := by
              rw [e0]
              unfold mf_61_4 mf_61_79
              simp (disch := omega) only [ev_S, ev_P, ↓reduceIte, Nat.reduceEqDiff, Nat.reduceLeDiff, Nat.reduceAdd, Nat.reduceMul, Nat.reduceSub, reduceCtorEq, l32_0, l32_1, l32_2, l32_3, l32_4, l32_5, l32_6, l32_7, l32_8, l32_9, l32_10, h1]
            show mf_61_L1 N (q + 1 + 1) 0 _ _ s = _
            rw [e0]
            repeat ((first | unfold mf_61 | unfold mf_61_0 | unfold mf_61_4 | unfold mf_61_8 | unfold mf_61_16 | unfold mf_61_21 | unfold mf_61_30 | unfold mf_61_38 | unfold mf_61_43 | unfold mf_61_48 | unfold mf_61_54 | unfold mf_61_61 | unfold mf_61_68 | unfold mf_61_74 | unfold mf_61_76 | unfold mf_61_79); try simp (disch := omega) only [ev_S, ev_P, ↓reduceIte, Nat.reduceEqDiff, Nat.reduceLeDiff, Nat.reduceAdd, Nat.reduceMul, Nat.reduceSub, reduceCtorEq, l32_0, l32_1, l32_2, l32_3, l32_4, l32_10, l32_32, l32_35, h1, hy, e00, l32_10, l32_35, l32_32])
    cases r with
    | false =>
      obtain ⟨k, k1, k2⟩ := key
      exact ⟨k, by omega, k2⟩
    | true =>
      rw [if_pos rfl]
      by_cases c10 : b a = 10
      · obtain ⟨k, k1, k2⟩ := key
        rw [hs true, if_pos c10]
        refine ⟨k + 1, by omega, fun q => ?_⟩
        have k2 := k2 q
        rw [hs false, if_pos c10] at k2
        rw [← Nat.add_assoc, e1]
        rw [c10] at hy
        repeat ((first | unfold mf_61 | unfold mf_61_0 | unfold mf_61_4 | unfold mf_61_8 | unfold mf_61_16 | unfold mf_61_21 | unfold mf_61_30 | unfold mf_61_38 | unfold mf_61_43 | unfold mf_61_48 | unfold mf_61_54 | unfold mf_61_61 | unfold mf_61_68 | unfold mf_61_74 | unfold mf_61_76 | unfold mf_61_79); try simp (disch := omega) only [ev_S, ev_P, ↓reduceIte, Nat.reduceEqDiff, Nat.reduceLeDiff, Nat.reduceAdd, Nat.reduceMul, Nat.reduceSub, reduceCtorEq, l32_0, l32_1, l32_2, l32_3, l32_4, l32_10, l32_32, l32_35, h1, hy, k2, l32_10])
      · rw [hs true, if_neg c10]
        obtain ⟨k, k1, k2⟩ := ih (a + 1) true (by omega)
        have e9 : (if b a = 35 then skF b n f true (a + 1) else if b a = 32 ∨ True then skF b n f true (a + 1) else a) = skF b n f true (a + 1) := by
          split
          · rfl
          · exact if_pos (Or.inr trivial)
        refine ⟨k + 1, by omega, fun q => ?_⟩
        have k2 := k2 q
        rw [if_pos rfl] at k2
        rw [show (if b a = 35 then skF b n f true (a + 1) else if b a = 32 ∨ true = true then skF b n f true (a + 1) else a) = skF b n f true (a + 1) from by
          split
          · rfl
          · exact if_pos (Or.inr rfl)]
        rw [← Nat.add_assoc, e1]
        repeat ((first | unfold mf_61 | unfold mf_61_0 | unfold mf_61_4 | unfold mf_61_8 | unfold mf_61_16 | unfold mf_61_21 | unfold mf_61_30 | unfold mf_61_38 | unfold mf_61_43 | unfold mf_61_48 | unfold mf_61_54 | unfold mf_61_61 | unfold mf_61_68 | unfold mf_61_74 | unfold mf_61_76 | unfold mf_61_79); try simp (disch := omega) only [ev_S, ev_P, ↓reduceIte, Nat.reduceEqDiff, Nat.reduceLeDiff, Nat.reduceAdd, Nat.reduceMul, Nat.reduceSub, reduceCtorEq, l32_0, l32_1, l32_2, l32_3, l32_4, l32_10, l32_32, l32_35, h1, hy, k2, l32_10])
theorem r_begin (hN : 170000 ≤ N) (h : rTx s b n) {a : Nat} (ha : a ≤ n) : mf_61 N (Int32.ofNat a) s = some (s, some (.int (Int32.ofNat (sk b n a)))) := by
  have h4 := h.2.1
  obtain ⟨k, k1, k2⟩ := r_skip (N := N) h (n - a) a false (by omega)
  have k2 := k2 (N - k)
  rw [show N - k + k = N by omega, if_neg (by decide)] at k2
  exact k2
end BLK
