/-! ===== PURE: run (7): a THING is measured (the reference's stack) ===== -/
section MEA
variable {N : Nat} {R : Nat → Prop} {d a i n D : Nat} {s : mS} {l : List (Th n)} {P : Nat → Nod → Prop}
abbrev mx2 (a b : Nat) : Nat := if b ≤ a then a else b
theorem me_top (hd : d < 8) (hD : D < 100) (h55 : s.1 55 = Int32.ofNat (d + 1)) (h56 : s.1 56 = Int32.ofNat D) (h52 : s.2.2.1 52 d = Int32.ofNat a) (h54 : s.2.2.1 54 d = Int32.ofNat i) (H : Wy (s.2.2.1 47) a P (vP n l)) (ha : a + wV wn (vP n l) ≤ 166300) (f : Nat) : mf_298_L1 N (f + 1) 0 s = mf_298_111 N (mf_298_L1 N f) (Int32.ofNat d) (Int32.ofNat a) (Int32.ofNat i) (Int32.ofNat i) (Int32.ofNat l.length) (mI s 56 (Int32.ofNat (mx2 D (d + 1)))) := by
  have hz : ∀ y, mf_77 N (Int32.ofNat a) (mI s 56 y) = some (mI s 56 y, some (.int (Int32.ofNat l.length))) := fun y => r_size (N := N) (s := mI s 56 y) (v := vP n l) H ha
  show mf_298_49 N (mf_298_L1 N f) s = _
  have n0 : ¬ d + 1 ≤ 0 := by omega
  unfold mf_298_49
  simp (disch := omega) only [ev_S, ev_P, ↓reduceIte, Nat.reduceEqDiff, Nat.reduceLeDiff, Nat.reduceAdd, Nat.reduceMul, Nat.reduceSub, reduceCtorEq, l32_0, l32_1, l32_2, l32_3, l32_4, l32_5, l32_6, l32_7, l32_8, l32_9, l32_10, l32_11, l32_12, l32_13, l32_14, l32_15, l32_16, l32_17, l32_18, l32_19, l32_20, l32_21, l32_22, l32_23, l32_24, l32_25, l32_26, l32_27, l32_28, l32_29, l32_33, l32_40, l32_41, l32_44, l32_45, l32_59, l32_61, l32_91, l32_93, l32_123, l32_125, h55]
  unfold mf_298_56
  by_cases c : d + 1 ≤ D
  · rw [show mx2 D (d + 1) = D from if_pos c]
    simp (disch := omega) only [ev_S, ev_P, ↓reduceIte, Nat.reduceEqDiff, Nat.reduceLeDiff, Nat.reduceAdd, Nat.reduceMul, Nat.reduceSub, reduceCtorEq, l32_0, l32_1, l32_2, l32_3, l32_4, l32_5, l32_6, l32_7, l32_8, l32_9, l32_10, l32_11, l32_12, l32_13, l32_14, l32_15, l32_16, l32_17, l32_18, l32_19, l32_20, l32_21, l32_22, l32_23, l32_24, l32_25, l32_26, l32_27, l32_28, l32_29, l32_33, l32_40, l32_41, l32_44, l32_45, l32_59, l32_61, l32_91, l32_93, l32_123, l32_125, h55, h56, h52, h54, c]
    unfold mf_298_97 mf_298_101
    simp (disch := omega) only [ev_S, ev_P, ↓reduceIte, Nat.reduceEqDiff, Nat.reduceLeDiff, Nat.reduceAdd, Nat.reduceMul, Nat.reduceSub, reduceCtorEq, l32_0, l32_1, l32_2, l32_3, l32_4, l32_5, l32_6, l32_7, l32_8, l32_9, l32_10, l32_11, l32_12, l32_13, l32_14, l32_15, l32_16, l32_17, l32_18, l32_19, l32_20, l32_21, l32_22, l32_23, l32_24, l32_25, l32_26, l32_27, l32_28, l32_29, l32_33, l32_40, l32_41, l32_44, l32_45, l32_59, l32_61, l32_91, l32_93, l32_123, l32_125, h56, hz]
  · rw [show mx2 D (d + 1) = d + 1 from if_neg c]
    simp (disch := omega) only [ev_S, ev_P, ↓reduceIte, Nat.reduceEqDiff, Nat.reduceLeDiff, Nat.reduceAdd, Nat.reduceMul, Nat.reduceSub, reduceCtorEq, l32_0, l32_1, l32_2, l32_3, l32_4, l32_5, l32_6, l32_7, l32_8, l32_9, l32_10, l32_11, l32_12, l32_13, l32_14, l32_15, l32_16, l32_17, l32_18, l32_19, l32_20, l32_21, l32_22, l32_23, l32_24, l32_25, l32_26, l32_27, l32_28, l32_29, l32_33, l32_40, l32_41, l32_44, l32_45, l32_59, l32_61, l32_91, l32_93, l32_123, l32_125, h55, h56, h52, h54, c]
    unfold mf_298_90 mf_298_101
    simp (disch := omega) only [ev_S, ev_P, ↓reduceIte, Nat.reduceEqDiff, Nat.reduceLeDiff, Nat.reduceAdd, Nat.reduceMul, Nat.reduceSub, reduceCtorEq, l32_0, l32_1, l32_2, l32_3, l32_4, l32_5, l32_6, l32_7, l32_8, l32_9, l32_10, l32_11, l32_12, l32_13, l32_14, l32_15, l32_16, l32_17, l32_18, l32_19, l32_20, l32_21, l32_22, l32_23, l32_24, l32_25, l32_26, l32_27, l32_28, l32_29, l32_33, l32_40, l32_41, l32_44, l32_45, l32_59, l32_61, l32_91, l32_93, l32_123, l32_125, h55, hz]
theorem me_end (hd : d < 8) (hD : D < 100) (h55 : s.1 55 = Int32.ofNat (d + 1)) (h56 : s.1 56 = Int32.ofNat D) (h52 : s.2.2.1 52 d = Int32.ofNat a) (h54 : s.2.2.1 54 d = Int32.ofNat l.length) (H : Wy (s.2.2.1 47) a P (vP n l)) (ha : a + wV wn (vP n l) ≤ 166300) (f : Nat) : mf_298_L1 N (f + 1) 0 s = mf_298_L1 N f 0 (mI (mI s 56 (Int32.ofNat (mx2 D (d + 1)))) 55 (Int32.ofNat d)) := by
  rw [me_top hd hD h55 h56 h52 h54 H ha]
  unfold mf_298_111
  rw [if_neg (fun z => z rfl)]
  unfold mf_298_114
  rw [show (mI s 56 (Int32.ofNat (mx2 D (d + 1)))).1 55 = Int32.ofNat (d + 1) from h55, i32sub (Nat.succ_pos d)]
  rfl
end MEA
