/-! ===== PURE: run (68): the reference's builtIn, by the number ===== -/
section RDS
variable {N : Nat} {s s' : mS} {n b : Nat}
theorem r_to330 (hn : n + 200 < 9000) (hb : b < 5) (h : mf_330 N (Int32.ofNat b) (s.2.2.1 50 n) (s.2.2.1 50 (n + 1)) (Int32.ofNat n) s = some (s', none)) : mf_328_66 N (Int32.ofNat b) (Int32.ofNat n) s = some (s', none) := by
  have g1 : ¬ 9000 ≤ n := by omega
  have g2 : ¬ 9000 ≤ n + 1 := by omega
  have g3 : ¬ b = 5 := by omega
  have g4 : ¬ 5 ≤ b := by omega
  unfold mf_328_66 mf_328_98 mf_328_103 mf_328_113 mf_328_160
  simp (disch := omega) only [ev_S, ev_P, ↓reduceIte, Nat.reduceEqDiff, Nat.reduceLeDiff, Nat.reduceAdd, Nat.reduceMul, Nat.reduceSub, reduceCtorEq, l32_0, l32_1, l32_2, l32_3, l32_4, l32_5, l32_6, l32_7, l32_8, l32_9, l32_10, l32_11, l32_12, l32_13, l32_14, l32_15, l32_16, l32_17, l32_18, l32_19, l32_20, l32_21, l32_22, l32_23, l32_24, l32_25, l32_26, l32_27, l32_28, l32_29, l32_33, l32_40, l32_41, l32_44, l32_45, l32_59, l32_61, l32_91, l32_93, l32_123, l32_125, g1, g2, g3, g4, h]
theorem r_to333 (hn : n + 200 < 9000) (hb : 5 < b ∧ b < 16) (h : mf_333 N (Int32.ofNat b) (s.2.2.1 50 n) (Int32.ofNat n) s = some (s', none)) : mf_328_66 N (Int32.ofNat b) (Int32.ofNat n) s = some (s', none) := by
  have g1 : ¬ 9000 ≤ n := by omega
  have g2 : ¬ 9000 ≤ n + 1 := by omega
  have g3 : ¬ b = 5 := by omega
  have g4 : 5 ≤ b := by omega
  have g5 : ¬ 16 ≤ b := by omega
  unfold mf_328_66 mf_328_98 mf_328_116 mf_328_122 mf_328_130 mf_328_160
  simp (disch := omega) only [ev_S, ev_P, ↓reduceIte, Nat.reduceEqDiff, Nat.reduceLeDiff, Nat.reduceAdd, Nat.reduceMul, Nat.reduceSub, reduceCtorEq, l32_0, l32_1, l32_2, l32_3, l32_4, l32_5, l32_6, l32_7, l32_8, l32_9, l32_10, l32_11, l32_12, l32_13, l32_14, l32_15, l32_16, l32_17, l32_18, l32_19, l32_20, l32_21, l32_22, l32_23, l32_24, l32_25, l32_26, l32_27, l32_28, l32_29, l32_33, l32_40, l32_41, l32_44, l32_45, l32_59, l32_61, l32_91, l32_93, l32_123, l32_125, g1, g2, g3, g4, g5, h]
theorem r_to335 (hn : n + 200 < 9000) (hb : 16 ≤ b ∧ b < 19) (h : mf_335 N (Int32.ofNat b) (s.2.2.1 50 n) (Int32.ofNat n) s = some (s', none)) : mf_328_66 N (Int32.ofNat b) (Int32.ofNat n) s = some (s', none) := by
  have g1 : ¬ 9000 ≤ n := by omega
  have g2 : ¬ 9000 ≤ n + 1 := by omega
  have g3 : ¬ b = 5 := by omega
  have g4 : 5 ≤ b := by omega
  have g5 : 16 ≤ b := by omega
  have g6 : ¬ 19 ≤ b := by omega
  unfold mf_328_66 mf_328_98 mf_328_116 mf_328_133 mf_328_139 mf_328_147 mf_328_160
  simp (disch := omega) only [ev_S, ev_P, ↓reduceIte, Nat.reduceEqDiff, Nat.reduceLeDiff, Nat.reduceAdd, Nat.reduceMul, Nat.reduceSub, reduceCtorEq, l32_0, l32_1, l32_2, l32_3, l32_4, l32_5, l32_6, l32_7, l32_8, l32_9, l32_10, l32_11, l32_12, l32_13, l32_14, l32_15, l32_16, l32_17, l32_18, l32_19, l32_20, l32_21, l32_22, l32_23, l32_24, l32_25, l32_26, l32_27, l32_28, l32_29, l32_33, l32_40, l32_41, l32_44, l32_45, l32_59, l32_61, l32_91, l32_93, l32_123, l32_125, g1, g2, g3, g4, g5, g6, h]
theorem r_to347 (hn : n + 200 < 9000) (hb : 19 ≤ b ∧ b < 28) (h : mf_347 N (Int32.ofNat b) (s.2.2.1 50 n) (s.2.2.1 50 (n + 1)) (Int32.ofNat n) s = some (s', none)) : mf_328_66 N (Int32.ofNat b) (Int32.ofNat n) s = some (s', none) := by
  have g1 : ¬ 9000 ≤ n := by omega
  have g2 : ¬ 9000 ≤ n + 1 := by omega
  have g3 : ¬ b = 5 := by omega
  have g4 : 5 ≤ b := by omega
  have g5 : 16 ≤ b := by omega
  have g6 : 19 ≤ b := by omega
  unfold mf_328_66 mf_328_98 mf_328_116 mf_328_133 mf_328_150 mf_328_160
  simp (disch := omega) only [ev_S, ev_P, ↓reduceIte, Nat.reduceEqDiff, Nat.reduceLeDiff, Nat.reduceAdd, Nat.reduceMul, Nat.reduceSub, reduceCtorEq, l32_0, l32_1, l32_2, l32_3, l32_4, l32_5, l32_6, l32_7, l32_8, l32_9, l32_10, l32_11, l32_12, l32_13, l32_14, l32_15, l32_16, l32_17, l32_18, l32_19, l32_20, l32_21, l32_22, l32_23, l32_24, l32_25, l32_26, l32_27, l32_28, l32_29, l32_33, l32_40, l32_41, l32_44, l32_45, l32_59, l32_61, l32_91, l32_93, l32_123, l32_125, g1, g2, g3, g4, g5, g6, h]
theorem r_347_27 {x y z : Int32} : mf_347 N (Int32.ofNat 27) x y z s = mf_347_186 N x y z s := by
  unfold mf_347 mf_347_0
  rw [if_pos (by decide)]
theorem r_347_19 {x y z : Int32} : mf_347 N (Int32.ofNat 19) x y z s = mf_347_48 N x y z s := by
  unfold mf_347 mf_347_0
  rw [if_neg (by decide), if_pos (by decide)]
theorem r_347_20 {x y z : Int32} : mf_347 N (Int32.ofNat 20) x y z s = mf_347_57 N (Int32.ofNat 20) x y z s := by
  unfold mf_347 mf_347_0
  rw [if_neg (by decide), if_neg (by decide), if_pos (by decide)]
theorem r_347_21 {x y z : Int32} : mf_347 N (Int32.ofNat 21) x y z s = mf_347_57 N (Int32.ofNat 21) x y z s := by
  unfold mf_347 mf_347_0
  rw [if_neg (by decide), if_neg (by decide), if_neg (by decide), if_pos (by decide)]
theorem r_347_22 {x y z : Int32} : mf_347 N (Int32.ofNat 22) x y z s = mf_347_67 N x y z s := by
  unfold mf_347 mf_347_0
  rw [if_neg (by decide), if_neg (by decide), if_neg (by decide), if_neg (by decide), if_pos (by decide)]
theorem r_347_23 {x y z : Int32} : mf_347 N (Int32.ofNat 23) x y z s = mf_347_76 N x y z s := by
  unfold mf_347 mf_347_0
  rw [if_neg (by decide), if_neg (by decide), if_neg (by decide), if_neg (by decide), if_neg (by decide), if_pos (by decide)]
theorem r_347_24 {x y z : Int32} : mf_347 N (Int32.ofNat 24) x y z s = mf_347_85 N x y z s := by
  unfold mf_347 mf_347_0
  rw [if_neg (by decide), if_neg (by decide), if_neg (by decide), if_neg (by decide), if_neg (by decide), if_neg (by decide), if_pos (by decide)]
theorem r_347_25 {x y z : Int32} : mf_347 N (Int32.ofNat 25) x y z s = mf_347_168 N x y z s := by
  unfold mf_347 mf_347_0
  rw [if_neg (by decide), if_neg (by decide), if_neg (by decide), if_neg (by decide), if_neg (by decide), if_neg (by decide), if_neg (by decide), if_pos (by decide)]
theorem r_347_26 {x y z : Int32} : mf_347 N (Int32.ofNat 26) x y z s = mf_347_177 N x y z s := by
  unfold mf_347 mf_347_0
  rw [if_neg (by decide), if_neg (by decide), if_neg (by decide), if_neg (by decide), if_neg (by decide), if_neg (by decide), if_neg (by decide), if_neg (by decide), if_pos (by decide)]
end RDS
