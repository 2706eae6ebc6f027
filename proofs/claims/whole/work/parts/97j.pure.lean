/-! ===== PURE: run (63): size, kind, same: what the class's one and two do ===== -/
section WRD
variable {N : Nat} {X : Nat → Option zz_C} {t t' : cS} {u w : Nat} {x y : Nod} {vx vy : Int64}
theorem cE.z (hh : cHp t u w) (z : Int32) : cE t t u (tg 0 z) (.inr (nZ z)) := cE.in hh (cN_iff.mpr rfl) trivial (Nat.zero_le _)
theorem c_sizW (hh : cHp t u w) (hx : cN (cel t) u vx x) (wx : wfN x) : ∃ t' v, cf_88_128 N X vx t = some (t', .inl (some (.long v))) ∧ cE t t' u v (if kn x = 0 then .inl 3 else .inr (nZ (Int32.ofNat (szN x)))) := by
  have kx := c_kn (N := N) (X := X) hx
  have lx := kn_le (x := x)
  have zz := c_sizeN (N := N) (X := X) hh hx
  have s1 := wf64 wx
  by_cases c : kn x = 0
  · rw [if_pos c]
    refine ⟨t, _, ?_, cE.tr hh (k := 3)⟩
    have b1 := c_rf (N := N) (X := X) (t := t) (k := Int32.ofNat 3)
    rw [c] at kx
    unfold cf_88_128 cf_88_132 cf_88_135 cf_88_139 cf_88_154
    simp (disch := omega) only [ev_S, ev_C, ↓reduceIte, Nat.reduceEqDiff, Nat.reduceLeDiff, Nat.reduceAdd, Nat.reduceMul, Nat.reduceSub, reduceCtorEq, l32_0, l32_1, l32_2, l32_3, l32_4, l32_5, l32_6, l32_7, l32_8, l32_9, l32_10, l32_11, l32_12, l32_13, l32_14, l32_15, l32_16, l32_17, l32_18, l32_19, l32_20, l32_21, l32_22, l32_23, l32_24, l32_25, l32_26, l32_27, l32_28, l32_29, l32_33, l32_40, l32_41, l32_44, l32_45, l32_59, l32_61, l32_91, l32_93, l32_123, l32_125, kx, b1]
  · rw [if_neg c]
    refine ⟨t, _, ?_, cE.z hh (Int32.ofNat (szN x))⟩
    have b1 : cf_253 N X (Int32.ofNat 0) (Int32.ofNat (szN x)) t = some (t, .inl (some (.long (tg 0 (Int32.ofNat (szN x)))))) := rfl
    generalize kn x = kx' at *
    generalize szN x = sx at *
    generalize tg 0 (Int32.ofNat sx) = V at *
    unfold cf_88_128 cf_88_132 cf_88_142 cf_88_151 cf_88_154
    simp (disch := omega) only [ev_S, ev_C, ↓reduceIte, Nat.reduceEqDiff, Nat.reduceLeDiff, Nat.reduceAdd, Nat.reduceMul, Nat.reduceSub, reduceCtorEq, l32_0, l32_1, l32_2, l32_3, l32_4, l32_5, l32_6, l32_7, l32_8, l32_9, l32_10, l32_11, l32_12, l32_13, l32_14, l32_15, l32_16, l32_17, l32_18, l32_19, l32_20, l32_21, l32_22, l32_23, l32_24, l32_25, l32_26, l32_27, l32_28, l32_29, l32_33, l32_40, l32_41, l32_44, l32_45, l32_59, l32_61, l32_91, l32_93, l32_123, l32_125, kx, zz, b1, c]
theorem c_kndW (hh : cHp t u w) (hx : cN (cel t) u vx x) : ∃ t' v, cf_88_161 N X vx t = some (t', .inl (some (.long v))) ∧ cE t t' u v (.inr (nZ (Int32.ofNat (kn x)))) := by
  have kx := c_kn (N := N) (X := X) hx
  have lx := kn_le (x := x)
  refine ⟨t, _, ?_, cE.z hh (Int32.ofNat (kn x))⟩
  have b1 : cf_253 N X (Int32.ofNat 0) (Int32.ofNat (kn x)) t = some (t, .inl (some (.long (tg 0 (Int32.ofNat (kn x)))))) := rfl
  generalize kn x = kx' at *
  generalize tg 0 (Int32.ofNat kx') = V at *
  unfold cf_88_161 cf_88_166 cf_88_169
  simp (disch := omega) only [ev_S, ev_C, ↓reduceIte, Nat.reduceEqDiff, Nat.reduceLeDiff, Nat.reduceAdd, Nat.reduceMul, Nat.reduceSub, reduceCtorEq, l32_0, l32_1, l32_2, l32_3, l32_4, l32_5, l32_6, l32_7, l32_8, l32_9, l32_10, l32_11, l32_12, l32_13, l32_14, l32_15, l32_16, l32_17, l32_18, l32_19, l32_20, l32_21, l32_22, l32_23, l32_24, l32_25, l32_26, l32_27, l32_28, l32_29, l32_33, l32_40, l32_41, l32_44, l32_45, l32_59, l32_61, l32_91, l32_93, l32_123, l32_125, kx, b1]
theorem c_samW (hN0 : 170000 ≤ N) (hh : cHp t u w) (hx : cN (cel t) u vx x) (hy : cN (cel t) u vy y) (wx : wfN x) (wy : wfN y) (dx : x.1 ≤ 4) (dy : y.1 ≤ 4) : ∃ t' v, cf_89_136 N X vx vy t = some (t', .inl (some (.long v))) ∧ cE t t' u v (.inr (nZ (sb1 (serN x = serN y)))) := by
  have a1 := c_alk (N := N) (X := X) hN0 wx wy dx dy hh hx hy
  have b1 : ∀ z : Int32, cf_253 N X (Int32.ofNat 0) z t = some (t, .inl (some (.long (tg 0 z)))) := fun _ => rfl
  refine ⟨t, _, ?_, cE.z hh _⟩
  by_cases e : serN x = serN y
  · rw [show sb1 (serN x = serN y) = Int32.ofNat 1 from if_pos e] at a1 ⊢
    have b1 := b1 (Int32.ofNat 1)
    generalize tg 0 (Int32.ofNat 1) = V at *
    unfold cf_89_136 cf_89_147 cf_89_150 cf_89_155 cf_89_158
    simp (disch := omega) only [ev_S, ev_C, ↓reduceIte, Nat.reduceEqDiff, Nat.reduceLeDiff, Nat.reduceAdd, Nat.reduceMul, Nat.reduceSub, reduceCtorEq, l32_0, l32_1, l32_2, l32_3, l32_4, l32_5, l32_6, l32_7, l32_8, l32_9, l32_10, l32_11, l32_12, l32_13, l32_14, l32_15, l32_16, l32_17, l32_18, l32_19, l32_20, l32_21, l32_22, l32_23, l32_24, l32_25, l32_26, l32_27, l32_28, l32_29, l32_33, l32_40, l32_41, l32_44, l32_45, l32_59, l32_61, l32_91, l32_93, l32_123, l32_125, a1, b1]
  · rw [show sb1 (serN x = serN y) = Int32.ofNat 0 from if_neg e] at a1 ⊢
    have b1 := b1 (Int32.ofNat 0)
    generalize tg 0 (Int32.ofNat 0) = V at *
    unfold cf_89_136 cf_89_147 cf_89_154 cf_89_155 cf_89_158
    simp (disch := omega) only [ev_S, ev_C, ↓reduceIte, Nat.reduceEqDiff, Nat.reduceLeDiff, Nat.reduceAdd, Nat.reduceMul, Nat.reduceSub, reduceCtorEq, l32_0, l32_1, l32_2, l32_3, l32_4, l32_5, l32_6, l32_7, l32_8, l32_9, l32_10, l32_11, l32_12, l32_13, l32_14, l32_15, l32_16, l32_17, l32_18, l32_19, l32_20, l32_21, l32_22, l32_23, l32_24, l32_25, l32_26, l32_27, l32_28, l32_29, l32_33, l32_40, l32_41, l32_44, l32_45, l32_59, l32_61, l32_91, l32_93, l32_123, l32_125, a1, b1]
end WRD
