/-! ===== PURE: run (64): the class's one and two, by the word ===== -/
section DSP
variable {N : Nat} {X : Nat → Option zz_C} {t : cS} {a k : Nat} {v v' : Int64} {y : Int32}
theorem c_ord (h2 : hgi X [] a 20 3 = some y) : cf_356 N X a t = some (t, .inl (some (.int y))) := by
  unfold cf_356 cf_356_0
  rw [h2]
  rfl
theorem c_one7 (ha : ¬ a < zz_out) (h1 : hcl X [] a 20 = true) (h2 : hgi X [] a 20 3 = some y) : cf_88 N X a v t = cf_88_7 N X a v y t := by
  have e := c_ord (N := N) (t := t) h2
  unfold cf_88 cf_88_0
  rw [if_pos ha, if_pos h1]
  simp (disch := omega) only [ev_S, ev_C, ↓reduceIte, Nat.reduceEqDiff, Nat.reduceLeDiff, Nat.reduceAdd, Nat.reduceMul, Nat.reduceSub, reduceCtorEq, l32_0, l32_1, l32_2, l32_3, l32_4, l32_5, l32_6, l32_7, l32_8, l32_9, l32_10, l32_11, l32_12, l32_13, l32_14, l32_15, l32_16, l32_17, l32_18, l32_19, l32_20, l32_21, l32_22, l32_23, l32_24, l32_25, l32_26, l32_27, l32_28, l32_29, l32_33, l32_40, l32_41, l32_44, l32_45, l32_59, l32_61, l32_91, l32_93, l32_123, l32_125, e]
theorem c_two7 (ha : ¬ a < zz_out) (h1 : hcl X [] a 20 = true) (h2 : hgi X [] a 20 3 = some y) : cf_89 N X a v v' t = cf_89_7 N X v v' y t := by
  have e := c_ord (N := N) (t := t) h2
  unfold cf_89 cf_89_0
  rw [if_pos ha, if_pos h1]
  simp (disch := omega) only [ev_S, ev_C, ↓reduceIte, Nat.reduceEqDiff, Nat.reduceLeDiff, Nat.reduceAdd, Nat.reduceMul, Nat.reduceSub, reduceCtorEq, l32_0, l32_1, l32_2, l32_3, l32_4, l32_5, l32_6, l32_7, l32_8, l32_9, l32_10, l32_11, l32_12, l32_13, l32_14, l32_15, l32_16, l32_17, l32_18, l32_19, l32_20, l32_21, l32_22, l32_23, l32_24, l32_25, l32_26, l32_27, l32_28, l32_29, l32_33, l32_40, l32_41, l32_44, l32_45, l32_59, l32_61, l32_91, l32_93, l32_123, l32_125, e]
theorem c_one_8 (ha : ¬ a < zz_out) (h1 : hcl X [] a 20 = true) (h2 : hgi X [] a 20 3 = some y) (h3 : hai X [] (zz_out + 43) y = some (Int32.ofNat 8)) : cf_88 N X a v t = cf_88_92 N X v t := by
  rw [c_one7 ha h1 h2]
  unfold cf_88_7
  rw [h3]
  rfl
theorem c_one_9 (ha : ¬ a < zz_out) (h1 : hcl X [] a 20 = true) (h2 : hgi X [] a 20 3 = some y) (h3 : hai X [] (zz_out + 43) y = some (Int32.ofNat 9)) : cf_88 N X a v t = cf_88_102 N X v t := by
  rw [c_one7 ha h1 h2]
  unfold cf_88_7
  rw [h3]
  rfl
theorem c_one_10 (ha : ¬ a < zz_out) (h1 : hcl X [] a 20 = true) (h2 : hgi X [] a 20 3 = some y) (h3 : hai X [] (zz_out + 43) y = some (Int32.ofNat 10)) : cf_88 N X a v t = cf_88_112 N X v t := by
  rw [c_one7 ha h1 h2]
  unfold cf_88_7
  rw [h3]
  rfl
theorem c_one_11 (ha : ¬ a < zz_out) (h1 : hcl X [] a 20 = true) (h2 : hgi X [] a 20 3 = some y) (h3 : hai X [] (zz_out + 43) y = some (Int32.ofNat 11)) : cf_88 N X a v t = cf_88_122 N X v t := by
  rw [c_one7 ha h1 h2]
  unfold cf_88_7
  rw [h3]
  rfl
theorem c_one_12 (ha : ¬ a < zz_out) (h1 : hcl X [] a 20 = true) (h2 : hgi X [] a 20 3 = some y) (h3 : hai X [] (zz_out + 43) y = some (Int32.ofNat 12)) : cf_88 N X a v t = cf_88_128 N X v t := by
  rw [c_one7 ha h1 h2]
  unfold cf_88_7
  rw [h3]
  rfl
theorem c_one_13 (ha : ¬ a < zz_out) (h1 : hcl X [] a 20 = true) (h2 : hgi X [] a 20 3 = some y) (h3 : hai X [] (zz_out + 43) y = some (Int32.ofNat 13)) : cf_88 N X a v t = cf_88_155 N X v t := by
  rw [c_one7 ha h1 h2]
  unfold cf_88_7
  rw [h3]
  rfl
theorem c_one_14 (ha : ¬ a < zz_out) (h1 : hcl X [] a 20 = true) (h2 : hgi X [] a 20 3 = some y) (h3 : hai X [] (zz_out + 43) y = some (Int32.ofNat 14)) : cf_88 N X a v t = cf_88_161 N X v t := by
  rw [c_one7 ha h1 h2]
  unfold cf_88_7
  rw [h3]
  rfl
theorem c_one_15 (ha : ¬ a < zz_out) (h1 : hcl X [] a 20 = true) (h2 : hgi X [] a 20 3 = some y) (h3 : hai X [] (zz_out + 43) y = some (Int32.ofNat 15)) : cf_88 N X a v t = cf_88_170 N X a v t := by
  rw [c_one7 ha h1 h2]
  unfold cf_88_7
  rw [h3]
  rfl
theorem c_one_16 (ha : ¬ a < zz_out) (h1 : hcl X [] a 20 = true) (h2 : hgi X [] a 20 3 = some y) (h3 : hai X [] (zz_out + 43) y = some (Int32.ofNat 16)) : cf_88 N X a v t = cf_88_170 N X a v t := by
  rw [c_one7 ha h1 h2]
  unfold cf_88_7
  rw [h3]
  rfl
theorem c_one_17 (ha : ¬ a < zz_out) (h1 : hcl X [] a 20 = true) (h2 : hgi X [] a 20 3 = some y) (h3 : hai X [] (zz_out + 43) y = some (Int32.ofNat 17)) : cf_88 N X a v t = cf_88_170 N X a v t := by
  rw [c_one7 ha h1 h2]
  unfold cf_88_7
  rw [h3]
  rfl
theorem c_one_18 (ha : ¬ a < zz_out) (h1 : hcl X [] a 20 = true) (h2 : hgi X [] a 20 3 = some y) (h3 : hai X [] (zz_out + 43) y = some (Int32.ofNat 18)) : cf_88 N X a v t = cf_88_177 N X a v t := by
  rw [c_one7 ha h1 h2]
  unfold cf_88_7
  rw [h3]
  rfl
theorem c_one_19 (ha : ¬ a < zz_out) (h1 : hcl X [] a 20 = true) (h2 : hgi X [] a 20 3 = some y) (h3 : hai X [] (zz_out + 43) y = some (Int32.ofNat 19)) : cf_88 N X a v t = cf_88_177 N X a v t := by
  rw [c_one7 ha h1 h2]
  unfold cf_88_7
  rw [h3]
  rfl
theorem c_one_20 (ha : ¬ a < zz_out) (h1 : hcl X [] a 20 = true) (h2 : hgi X [] a 20 3 = some y) (h3 : hai X [] (zz_out + 43) y = some (Int32.ofNat 20)) : cf_88 N X a v t = cf_88_184 N X v t := by
  rw [c_one7 ha h1 h2]
  unfold cf_88_7
  rw [h3]
  rfl
theorem c_one_21 (ha : ¬ a < zz_out) (h1 : hcl X [] a 20 = true) (h2 : hgi X [] a 20 3 = some y) (h3 : hai X [] (zz_out + 43) y = some (Int32.ofNat 21)) : cf_88 N X a v t = cf_88_190 N X v t := by
  rw [c_one7 ha h1 h2]
  unfold cf_88_7
  rw [h3]
  rfl
theorem c_one_22 (ha : ¬ a < zz_out) (h1 : hcl X [] a 20 = true) (h2 : hgi X [] a 20 3 = some y) (h3 : hai X [] (zz_out + 43) y = some (Int32.ofNat 22)) : cf_88 N X a v t = cf_88_196 N X v t := by
  rw [c_one7 ha h1 h2]
  unfold cf_88_7
  rw [h3]
  rfl
theorem c_one_23 (ha : ¬ a < zz_out) (h1 : hcl X [] a 20 = true) (h2 : hgi X [] a 20 3 = some y) (h3 : hai X [] (zz_out + 43) y = some (Int32.ofNat 23)) : cf_88 N X a v t = cf_88_202 N X v t := by
  rw [c_one7 ha h1 h2]
  unfold cf_88_7
  rw [h3]
  rfl
theorem c_one_24 (ha : ¬ a < zz_out) (h1 : hcl X [] a 20 = true) (h2 : hgi X [] a 20 3 = some y) (h3 : hai X [] (zz_out + 43) y = some (Int32.ofNat 24)) : cf_88 N X a v t = cf_88_208 N X v t := by
  rw [c_one7 ha h1 h2]
  unfold cf_88_7
  rw [h3]
  rfl
theorem c_two_25 (ha : ¬ a < zz_out) (h1 : hcl X [] a 20 = true) (h2 : hgi X [] a 20 3 = some y) (h3 : hai X [] (zz_out + 43) y = some (Int32.ofNat 25)) : cf_89 N X a v v' t = cf_89_64 N X v v' t := by
  rw [c_two7 ha h1 h2]
  unfold cf_89_7
  rw [h3]
  rfl
theorem c_two_26 (ha : ¬ a < zz_out) (h1 : hcl X [] a 20 = true) (h2 : hgi X [] a 20 3 = some y) (h3 : hai X [] (zz_out + 43) y = some (Int32.ofNat 26)) : cf_89 N X a v v' t = cf_89_72 N X v v' t := by
  rw [c_two7 ha h1 h2]
  unfold cf_89_7
  rw [h3]
  rfl
theorem c_two_27 (ha : ¬ a < zz_out) (h1 : hcl X [] a 20 = true) (h2 : hgi X [] a 20 3 = some y) (h3 : hai X [] (zz_out + 43) y = some (Int32.ofNat 27)) : cf_89 N X a v v' t = cf_89_80 N X v v' t := by
  rw [c_two7 ha h1 h2]
  unfold cf_89_7
  rw [h3]
  rfl
theorem c_two_28 (ha : ¬ a < zz_out) (h1 : hcl X [] a 20 = true) (h2 : hgi X [] a 20 3 = some y) (h3 : hai X [] (zz_out + 43) y = some (Int32.ofNat 28)) : cf_89 N X a v v' t = cf_89_88 N X v v' t := by
  rw [c_two7 ha h1 h2]
  unfold cf_89_7
  rw [h3]
  rfl
theorem c_two_29 (ha : ¬ a < zz_out) (h1 : hcl X [] a 20 = true) (h2 : hgi X [] a 20 3 = some y) (h3 : hai X [] (zz_out + 43) y = some (Int32.ofNat 29)) : cf_89 N X a v v' t = cf_89_96 N X v v' t := by
  rw [c_two7 ha h1 h2]
  unfold cf_89_7
  rw [h3]
  rfl
theorem c_two_30 (ha : ¬ a < zz_out) (h1 : hcl X [] a 20 = true) (h2 : hgi X [] a 20 3 = some y) (h3 : hai X [] (zz_out + 43) y = some (Int32.ofNat 30)) : cf_89 N X a v v' t = cf_89_104 N X v v' t := by
  rw [c_two7 ha h1 h2]
  unfold cf_89_7
  rw [h3]
  rfl
theorem c_two_31 (ha : ¬ a < zz_out) (h1 : hcl X [] a 20 = true) (h2 : hgi X [] a 20 3 = some y) (h3 : hai X [] (zz_out + 43) y = some (Int32.ofNat 31)) : cf_89 N X a v v' t = cf_89_112 N X v v' t := by
  rw [c_two7 ha h1 h2]
  unfold cf_89_7
  rw [h3]
  rfl
theorem c_two_32 (ha : ¬ a < zz_out) (h1 : hcl X [] a 20 = true) (h2 : hgi X [] a 20 3 = some y) (h3 : hai X [] (zz_out + 43) y = some (Int32.ofNat 32)) : cf_89 N X a v v' t = cf_89_120 N X v v' t := by
  rw [c_two7 ha h1 h2]
  unfold cf_89_7
  rw [h3]
  rfl
theorem c_two_33 (ha : ¬ a < zz_out) (h1 : hcl X [] a 20 = true) (h2 : hgi X [] a 20 3 = some y) (h3 : hai X [] (zz_out + 43) y = some (Int32.ofNat 33)) : cf_89 N X a v v' t = cf_89_128 N X v v' t := by
  rw [c_two7 ha h1 h2]
  unfold cf_89_7
  rw [h3]
  rfl
theorem c_two_34 (ha : ¬ a < zz_out) (h1 : hcl X [] a 20 = true) (h2 : hgi X [] a 20 3 = some y) (h3 : hai X [] (zz_out + 43) y = some (Int32.ofNat 34)) : cf_89 N X a v v' t = cf_89_136 N X v v' t := by
  rw [c_two7 ha h1 h2]
  unfold cf_89_7
  rw [h3]
  rfl
end DSP
