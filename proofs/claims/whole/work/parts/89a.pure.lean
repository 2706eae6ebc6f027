/-! ===== PURE: tokens ===== -/
/-- kind, a number's value, a word's letters, where it begins, where it ends -/
abbrev Tk : Type := Nat × Nat × List Nat × Nat × Nat
def isEq (c : Nat) : Prop := c = 61 ∨ c = 33 ∨ c = 60 ∨ c = 62
def isSg (c : Nat) : Prop := c = 123 ∨ c = 125 ∨ c = 40 ∨ c = 41 ∨ c = 91 ∨ c = 93 ∨ c = 59 ∨ c = 44 ∨ c = 61 ∨ c = 60 ∨ c = 62 ∨ c = 43 ∨ c = 45 ∨ c = 42 ∨ c = 47 ∨ c = 37 ∨ c = 38 ∨ c = 124 ∨ c = 33
def two (b : Nat → Nat) (n a : Nat) : Prop := isEq (b a) ∧ a + 1 < n ∧ b (a + 1) = 61
/-- a word's token -/
def tkW (a : Nat) (p : Nat × List Nat) : Tk := if p.2.length ≤ 8 then (3, 0, p.2, a, p.1) else (1, 0, [], a, p.1)
def tkN (a : Nat) (p : Nat × Nat) : Tk := if p.1 - a ≤ 10 ∧ p.2 ≤ 2147483647 then (2, p.2, [], a, p.1) else (1, 0, [], a, p.1)
def sgB (c : Nat) : Bool := [123, 125, 40, 41, 91, 93, 59, 44, 61, 60, 62, 43, 45, 42, 47, 37, 38, 124, 33].contains c
def eqB (c : Nat) : Bool := [61, 33, 60, 62].contains c
theorem sgB_iff {c : Nat} : sgB c = true ↔ isSg c := by
  unfold sgB isSg
  simp only [List.contains_cons, List.contains_nil, Bool.or_eq_true, beq_iff_eq, Bool.false_eq_true, or_false]
theorem eqB_iff {c : Nat} : eqB c = true ↔ isEq c := by
  unfold eqB isEq
  simp only [List.contains_cons, List.contains_nil, Bool.or_eq_true, beq_iff_eq, Bool.false_eq_true, or_false]
def tkS (b : Nat → Nat) (n a : Nat) : Tk := if eqB (b a) = true ∧ a + 1 < n ∧ b (a + 1) = 61 then (b a + 256, 0, [], a, a + 2) else if sgB (b a) = true then (b a, 0, [], a, a + 1) else (1, 0, [], a, a + 1)
def tkA (b : Nat → Nat) (n a : Nat) : Tk := if a < n then (if 97 ≤ b a ∧ b a ≤ 122 then tkW a (wrd b n (n - a) a []) else if 48 ≤ b a ∧ b a ≤ 57 then tkN a (nmb b n (n - a) a 0) else tkS b n a) else (0, 0, [], a, a)
def lex (b : Nat → Nat) (n p : Nat) : Tk := tkA b n (sk b n p)
/-- a sign's value, as the reference has it -/
def sgv (k : Nat) : Nat := if k < 256 then k else if k = 317 then 256 else if k = 289 then 257 else if k = 316 then 258 else 259
/-- the reference stands at this token -/
def rTk (s : mS) (k : Tk) : Prop := s.1 6 = Int32.ofNat k.2.2.2.1 ∧ s.1 8 = Int32.ofNat k.2.2.2.2 ∧ ((k.1 = 0 ∧ s.1 5 = 0) ∨ (k.1 = 1 ∧ s.1 5 = 4) ∨ (k.1 = 2 ∧ s.1 5 = 2 ∧ s.2.1 7 = Int64.ofNat k.2.1 ∧ k.2.1 ≤ 2147483647) ∨ (k.1 = 3 ∧ s.1 5 = 1 ∧ s.2.1 7 = Int64.ofNat (evB 27 k.2.2.1) ∧ k.2.2.1.length ≤ 8 ∧ okL k.2.2.1) ∨ (33 ≤ k.1 ∧ k.1 < 512 ∧ s.1 5 = 3 ∧ s.2.1 7 = Int64.ofNat (sgv k.1)))
abbrev fTk (s s' : mS) : Prop := mfr (fun q => q = 5 ∨ q = 6 ∨ q = 8) (fun q => q = 7) (fun _ => False) (fun _ => False) s s'
theorem sg_rng {c : Nat} (h : isSg c) : 33 ≤ c ∧ c < 128 := by
  unfold isSg at h
  omega
section TOK
variable {N : Nat} {s : mS} {b : Nat → Nat} {n : Nat}
theorem l64_256 : (256 : Int64) = Int64.ofNat 256 := rfl
theorem l64_257 : (257 : Int64) = Int64.ofNat 257 := rfl
theorem l64_258 : (258 : Int64) = Int64.ofNat 258 := rfl
theorem l64_259 : (259 : Int64) = Int64.ofNat 259 := rfl
/-- a sign, two signs, or none -/
theorem r_sign {a : Nat} (h : rTx s b n) (h6 : s.1 6 = Int32.ofNat a) (ha : a < n) : ∃ s', mf_259 N (Int32.ofNat (b a)) s = some (s', some (.int (Int32.ofNat (tkS b n a).2.2.2.2))) ∧ fTk s s' ∧ s'.1 6 = s.1 6 ∧ ((tkS b n a).1 = 1 ∧ s'.1 5 = 4 ∨ (33 ≤ (tkS b n a).1 ∧ (tkS b n a).1 < 512 ∧ s'.1 5 = 3 ∧ s'.2.1 7 = Int64.ofNat (sgv (tkS b n a).1))) := by
  have h4 := h.2.1
  have h5 := h.2.2.1
  have hb := h5 a
  have hx : rTx (mI s 5 (Int32.ofNat 3)) b n := h
  have hy := r_byte (N := N) hx (a := a + 1) (by omega)
  have f2 : ∀ (x : Int32) (V : Int64), fTk s (mL (mI s 5 x) 7 V) := fun x V => ⟨fun q r => if_neg (fun z => r (Or.inl z)), fun q r => if_neg r, fun _ _ => rfl, fun _ _ => rfl⟩
  have f3 : ∀ (x y : Int32) (V : Int64), fTk s (mI (mL (mI s 5 x) 7 V) 5 y) := fun x y V => ⟨fun q r => by
    show (if q = 5 then _ else if q = 5 then _ else s.1 q) = _
    rw [if_neg (fun z => r (Or.inl z)), if_neg (fun z => r (Or.inl z))], fun q r => if_neg r, fun _ _ => rfl, fun _ _ => rfl⟩
  -- what follows is no =, or the sign stands alone
  have one : ∀ y : Nat, y < 256 → (if a + 1 < n then b (a + 1) else 0) = y → (y ≠ 61 ∨ ¬ isEq (b a)) → (isSg (b a) → ∃ s', mf_259 N (Int32.ofNat (b a)) s = some (s', some (.int (Int32.ofNat (a + 1)))) ∧ fTk s s' ∧ s'.1 6 = s.1 6 ∧ s'.1 5 = 3 ∧ s'.2.1 7 = Int64.ofNat (b a)) ∧ (¬ isSg (b a) → ∃ s', mf_259 N (Int32.ofNat (b a)) s = some (s', some (.int (Int32.ofNat (a + 1)))) ∧ fTk s s' ∧ s'.1 6 = s.1 6 ∧ s'.1 5 = 4) := by
    intro y hy256 ey hne
    rw [ey] at hy
    have e104 : mf_259 N (Int32.ofNat (b a)) s = mf_259_104 N (Int32.ofNat (b a)) (mI s 5 (Int32.ofNat 3)) := by
      by_cases c : y = 61
      · have hn : ¬ isEq (b a) := hne.elim (fun z => absurd c z) (fun z => z)
        unfold isEq at hn
        subst c
        generalize b a = c at hn hb
        have n1 : ¬ c = 61 := by omega
        have n2 : ¬ c = 33 := by omega
        have n3 : ¬ c = 60 := by omega
        have n4 : ¬ c = 62 := by omega
        unfold mf_259 mf_259_0 mf_259_15 mf_259_20 mf_259_25 mf_259_30 mf_259_36 mf_259_42 mf_259_48
        simp (disch := omega) only [ev_S, ev_P, ↓reduceIte, Nat.reduceEqDiff, Nat.reduceLeDiff, Nat.reduceAdd, Nat.reduceMul, Nat.reduceSub, reduceCtorEq, l32_0, l32_1, l32_2, l32_3, l32_4, l32_5, l32_6, l32_7, l32_8, l32_9, l32_10, h6, hy, l32_61, l32_33, l32_60, l32_62]
      · unfold mf_259 mf_259_0 mf_259_15 mf_259_24 mf_259_25
        simp (disch := omega) only [ev_S, ev_P, ↓reduceIte, Nat.reduceEqDiff, Nat.reduceLeDiff, Nat.reduceAdd, Nat.reduceMul, Nat.reduceSub, reduceCtorEq, l32_0, l32_1, l32_2, l32_3, l32_4, l32_5, l32_6, l32_7, l32_8, l32_9, l32_10, h6, hy, l32_61]
    rw [e104]
    constructor
    · intro hs
      refine ⟨mL (mI s 5 (Int32.ofNat 3)) 7 (Int64.ofNat (b a)), ?_, f2 _ _, rfl, rfl, rfl⟩
      unfold isSg at hs
      generalize b a = c at hs hb
      rcases hs with rfl | rfl | rfl | rfl | rfl | rfl | rfl | rfl | rfl | rfl | rfl | rfl | rfl | rfl | rfl | rfl | rfl | rfl | rfl <;> repeat ((first | unfold mf_259_104 | unfold mf_259_110 | unfold mf_259_116 | unfold mf_259_122 | unfold mf_259_128 | unfold mf_259_134 | unfold mf_259_140 | unfold mf_259_146 | unfold mf_259_152 | unfold mf_259_158 | unfold mf_259_164 | unfold mf_259_170 | unfold mf_259_176 | unfold mf_259_182 | unfold mf_259_188 | unfold mf_259_194 | unfold mf_259_200 | unfold mf_259_206 | unfold mf_259_212 | unfold mf_259_218 | unfold mf_259_223 | unfold mf_259_239); try simp (disch := omega) only [ev_S, ev_P, ↓reduceIte, Nat.reduceEqDiff, Nat.reduceLeDiff, Nat.reduceAdd, Nat.reduceMul, Nat.reduceSub, reduceCtorEq, l32_0, l32_1, l32_2, l32_3, l32_4, l32_6, l32_7, l32_33, l32_37, l32_38, l32_40, l32_41, l32_42, l32_43, l32_44, l32_45, l32_47, l32_59, l32_60, l32_61, l32_62, l32_91, l32_93, l32_123, l32_124, l32_125, h6, i64of32])
    · intro hs
      refine ⟨mI (mL (mI s 5 (Int32.ofNat 3)) 7 (Int64.ofNat (b a))) 5 (Int32.ofNat 4), ?_, f3 _ _ _, rfl, rfl⟩
      unfold isSg at hs
      generalize b a = c at hs hb
      repeat ((first | unfold mf_259_104 | unfold mf_259_110 | unfold mf_259_116 | unfold mf_259_122 | unfold mf_259_128 | unfold mf_259_134 | unfold mf_259_140 | unfold mf_259_146 | unfold mf_259_152 | unfold mf_259_158 | unfold mf_259_164 | unfold mf_259_170 | unfold mf_259_176 | unfold mf_259_182 | unfold mf_259_188 | unfold mf_259_194 | unfold mf_259_200 | unfold mf_259_206 | unfold mf_259_212 | unfold mf_259_222 | unfold mf_259_223 | unfold mf_259_234 | unfold mf_259_239); try simp (disch := omega) only [ev_S, ev_P, ↓reduceIte, Nat.reduceEqDiff, Nat.reduceLeDiff, Nat.reduceAdd, Nat.reduceMul, Nat.reduceSub, reduceCtorEq, l32_0, l32_1, l32_2, l32_3, l32_4, l32_5, l32_6, l32_7, l32_33, l32_37, l32_38, l32_40, l32_41, l32_42, l32_43, l32_44, l32_45, l32_47, l32_59, l32_60, l32_61, l32_62, l32_91, l32_93, l32_123, l32_124, l32_125, h6, i64of32])
  by_cases c2 : eqB (b a) = true ∧ a + 1 < n ∧ b (a + 1) = 61
  · have et : tkS b n a = (b a + 256, 0, [], a, a + 2) := if_pos c2
    obtain ⟨q1, q2, q3⟩ := c2
    rw [eqB_iff] at q1
    rw [if_pos q2, q3] at hy
    rw [et]
    refine ⟨mL (mI s 5 (Int32.ofNat 3)) 7 (Int64.ofNat (sgv (b a + 256))), ?_, f2 _ _, rfl, Or.inr ⟨by show 33 ≤ b a + 256; omega, by show b a + 256 < 512; omega, rfl, rfl⟩⟩
    show mf_259 N (Int32.ofNat (b a)) s = some (_, some (.int (Int32.ofNat (a + 2))))
    unfold isEq at q1
    generalize b a = c at q1 hb
    have s1 : sgv (61 + 256) = 256 := rfl
    have s2 : sgv (33 + 256) = 257 := rfl
    have s3 : sgv (60 + 256) = 258 := rfl
    have s4 : sgv (62 + 256) = 259 := rfl
    rcases q1 with rfl | rfl | rfl | rfl
    · rw [s1]
      repeat ((first | unfold mf_259 | unfold mf_259_0 | unfold mf_259_15 | unfold mf_259_20 | unfold mf_259_24 | unfold mf_259_25 | unfold mf_259_30 | unfold mf_259_36 | unfold mf_259_42 | unfold mf_259_48 | unfold mf_259_54 | unfold mf_259_61 | unfold mf_259_67 | unfold mf_259_73 | unfold mf_259_79 | unfold mf_259_85 | unfold mf_259_91 | unfold mf_259_94 | unfold mf_259_104 | unfold mf_259_110 | unfold mf_259_116 | unfold mf_259_122 | unfold mf_259_128 | unfold mf_259_134 | unfold mf_259_140 | unfold mf_259_146 | unfold mf_259_152 | unfold mf_259_158 | unfold mf_259_164 | unfold mf_259_170 | unfold mf_259_176 | unfold mf_259_182 | unfold mf_259_188 | unfold mf_259_194 | unfold mf_259_200 | unfold mf_259_206 | unfold mf_259_212 | unfold mf_259_218 | unfold mf_259_222 | unfold mf_259_223 | unfold mf_259_234 | unfold mf_259_239); try simp (disch := omega) only [ev_S, ev_P, ↓reduceIte, Nat.reduceEqDiff, Nat.reduceLeDiff, Nat.reduceAdd, Nat.reduceMul, Nat.reduceSub, reduceCtorEq, l32_0, l32_1, l32_2, l32_3, l32_4, l32_5, l32_6, l32_7, l32_33, l32_37, l32_38, l32_40, l32_41, l32_42, l32_43, l32_44, l32_45, l32_47, l32_59, l32_60, l32_61, l32_62, l32_91, l32_93, l32_123, l32_124, l32_125, l32_256, l32_257, l32_258, l32_259, h6, hy, l64_256, l32_61])
    · rw [s2]
      repeat ((first | unfold mf_259 | unfold mf_259_0 | unfold mf_259_15 | unfold mf_259_20 | unfold mf_259_24 | unfold mf_259_25 | unfold mf_259_30 | unfold mf_259_36 | unfold mf_259_42 | unfold mf_259_48 | unfold mf_259_54 | unfold mf_259_61 | unfold mf_259_67 | unfold mf_259_73 | unfold mf_259_79 | unfold mf_259_85 | unfold mf_259_91 | unfold mf_259_94 | unfold mf_259_104 | unfold mf_259_110 | unfold mf_259_116 | unfold mf_259_122 | unfold mf_259_128 | unfold mf_259_134 | unfold mf_259_140 | unfold mf_259_146 | unfold mf_259_152 | unfold mf_259_158 | unfold mf_259_164 | unfold mf_259_170 | unfold mf_259_176 | unfold mf_259_182 | unfold mf_259_188 | unfold mf_259_194 | unfold mf_259_200 | unfold mf_259_206 | unfold mf_259_212 | unfold mf_259_218 | unfold mf_259_222 | unfold mf_259_223 | unfold mf_259_234 | unfold mf_259_239); try simp (disch := omega) only [ev_S, ev_P, ↓reduceIte, Nat.reduceEqDiff, Nat.reduceLeDiff, Nat.reduceAdd, Nat.reduceMul, Nat.reduceSub, reduceCtorEq, l32_0, l32_1, l32_2, l32_3, l32_4, l32_5, l32_6, l32_7, l32_33, l32_37, l32_38, l32_40, l32_41, l32_42, l32_43, l32_44, l32_45, l32_47, l32_59, l32_60, l32_61, l32_62, l32_91, l32_93, l32_123, l32_124, l32_125, l32_256, l32_257, l32_258, l32_259, h6, hy, l64_257, l32_61])
    · rw [s3]
      repeat ((first | unfold mf_259 | unfold mf_259_0 | unfold mf_259_15 | unfold mf_259_20 | unfold mf_259_24 | unfold mf_259_25 | unfold mf_259_30 | unfold mf_259_36 | unfold mf_259_42 | unfold mf_259_48 | unfold mf_259_54 | unfold mf_259_61 | unfold mf_259_67 | unfold mf_259_73 | unfold mf_259_79 | unfold mf_259_85 | unfold mf_259_91 | unfold mf_259_94 | unfold mf_259_104 | unfold mf_259_110 | unfold mf_259_116 | unfold mf_259_122 | unfold mf_259_128 | unfold mf_259_134 | unfold mf_259_140 | unfold mf_259_146 | unfold mf_259_152 | unfold mf_259_158 | unfold mf_259_164 | unfold mf_259_170 | unfold mf_259_176 | unfold mf_259_182 | unfold mf_259_188 | unfold mf_259_194 | unfold mf_259_200 | unfold mf_259_206 | unfold mf_259_212 | unfold mf_259_218 | unfold mf_259_222 | unfold mf_259_223 | unfold mf_259_234 | unfold mf_259_239); try simp (disch := omega) only [ev_S, ev_P, ↓reduceIte, Nat.reduceEqDiff, Nat.reduceLeDiff, Nat.reduceAdd, Nat.reduceMul, Nat.reduceSub, reduceCtorEq, l32_0, l32_1, l32_2, l32_3, l32_4, l32_5, l32_6, l32_7, l32_33, l32_37, l32_38, l32_40, l32_41, l32_42, l32_43, l32_44, l32_45, l32_47, l32_59, l32_60, l32_61, l32_62, l32_91, l32_93, l32_123, l32_124, l32_125, l32_256, l32_257, l32_258, l32_259, h6, hy, l64_258, l32_61])
    · rw [s4]
      repeat ((first | unfold mf_259 | unfold mf_259_0 | unfold mf_259_15 | unfold mf_259_20 | unfold mf_259_24 | unfold mf_259_25 | unfold mf_259_30 | unfold mf_259_36 | unfold mf_259_42 | unfold mf_259_48 | unfold mf_259_54 | unfold mf_259_61 | unfold mf_259_67 | unfold mf_259_73 | unfold mf_259_79 | unfold mf_259_85 | unfold mf_259_91 | unfold mf_259_94 | unfold mf_259_104 | unfold mf_259_110 | unfold mf_259_116 | unfold mf_259_122 | unfold mf_259_128 | unfold mf_259_134 | unfold mf_259_140 | unfold mf_259_146 | unfold mf_259_152 | unfold mf_259_158 | unfold mf_259_164 | unfold mf_259_170 | unfold mf_259_176 | unfold mf_259_182 | unfold mf_259_188 | unfold mf_259_194 | unfold mf_259_200 | unfold mf_259_206 | unfold mf_259_212 | unfold mf_259_218 | unfold mf_259_222 | unfold mf_259_223 | unfold mf_259_234 | unfold mf_259_239); try simp (disch := omega) only [ev_S, ev_P, ↓reduceIte, Nat.reduceEqDiff, Nat.reduceLeDiff, Nat.reduceAdd, Nat.reduceMul, Nat.reduceSub, reduceCtorEq, l32_0, l32_1, l32_2, l32_3, l32_4, l32_5, l32_6, l32_7, l32_33, l32_37, l32_38, l32_40, l32_41, l32_42, l32_43, l32_44, l32_45, l32_47, l32_59, l32_60, l32_61, l32_62, l32_91, l32_93, l32_123, l32_124, l32_125, l32_256, l32_257, l32_258, l32_259, h6, hy, l64_259, l32_61])
  · have hne : (if a + 1 < n then b (a + 1) else 0) ≠ 61 ∨ ¬ isEq (b a) := by
      by_cases q : isEq (b a)
      · left
        by_cases q2 : a + 1 < n
        · rw [if_pos q2]
          exact fun q3 => c2 ⟨eqB_iff.mpr q, q2, q3⟩
        · rw [if_neg q2]
          decide
      · exact Or.inr q
    obtain ⟨o1, o2⟩ := one _ (by split; exact h5 _; decide) rfl hne
    have et : tkS b n a = if sgB (b a) = true then (b a, 0, [], a, a + 1) else (1, 0, [], a, a + 1) := if_neg c2
    rw [et]
    by_cases c3 : sgB (b a) = true
    · rw [if_pos c3]
      have hs := sgB_iff.mp c3
      obtain ⟨s', u1, u2, u3, u4, u5⟩ := o1 hs
      have hr := sg_rng hs
      have e9 : sgv (b a) = b a := if_pos (by omega)
      exact ⟨s', u1, u2, u3, Or.inr ⟨hr.1, by show b a < 512; omega, u4, by show _ = Int64.ofNat (sgv (b a)); rw [e9]; exact u5⟩⟩
    · rw [if_neg c3]
      obtain ⟨s', u1, u2, u3, u4⟩ := o2 (fun q => c3 (sgB_iff.mpr q))
      exact ⟨s', u1, u2, u3, Or.inl ⟨rfl, u4⟩⟩
end TOK
