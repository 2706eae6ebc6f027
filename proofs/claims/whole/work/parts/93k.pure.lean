/-! ===== PURE: statements (10): if ===== -/
section IFS
variable {N : Nat} {X : Nat → Option zz_C} {t t' t1 t2 : cS} {s s' s1 s2 : mS} {b : Nat → Nat} {n p e i i' op op' D D' : Nat} {code code1 code2 l : List Ins} {vs vs' : List (List Nat)} {cl : List Cn} {W : List Wt} {cu cu' : List Nat} {fs fs' : Nat × Nat × Nat} {Bs : List (Int32 × Int32 × Int32)} {a m z : Nat} {c c' : Ins}
/-- is it the word else? both see it alike -/
theorem p_isElse (hX : oX N X) (h : pR b n i op t s) : ∃ hi : i < (TL b n).length, (((TL b n)[i].1 = 3 ∧ wix (TL b n)[i].2.2.1 = some 2) ∧ mf_264 N (Int32.ofNat 2) s = some (s, some (.int (Int32.ofNat 1))) ∧ ∀ rk pl y, cf_181_17 N X rk pl y t = cf_181_54 N X rk pl y t) ∨ (mf_264 N (Int32.ofNat 2) s = some (s, some (.int (Int32.ofNat 0))) ∧ ∀ rk pl y, cf_181_17 N X rk pl y t = cf_181_38 N X rk y t) := by
  obtain ⟨hi, e5, e6, e7, hkk, ho, he, hlt, hll⟩ := h.now
  have g1 := r_isWord (N := N) h.2.2.2.2.2.2.2.1 (w := 2) (by decide) hkk
  refine ⟨hi, ?_⟩
  have o6 : (zz_out < zz_out + 3) = True := eq_true (by omega)
  have o7 : (zz_out + 3 ≤ zz_out + 41) = True := eq_true (by omega)
  by_cases z : (TL b n)[i].1 = 3 ∧ wix (TL b n)[i].2.2.1 = some 2
  · obtain ⟨w1, w2, w3, w4⟩ := c_word (N := N) (X := X) hX h (fun _ => z)
    rw [if_pos ⟨z.1, (wix_some z.2).2.symm⟩] at g1
    refine Or.inl ⟨z, g1, fun rk pl y => ?_⟩
    unfold cf_181_17 cf_181_24 cf_181_28 cf_181_32
    simp (disch := omega) only [ev_S, ev_C, ↓reduceIte, Nat.reduceEqDiff, Nat.reduceLeDiff, Nat.reduceAdd, Nat.reduceMul, Nat.reduceSub, reduceCtorEq, l32_0, l32_1, l32_2, l32_3, l32_4, l32_5, l32_6, l32_7, l32_8, l32_9, l32_10, l32_11, l32_12, l32_13, l32_14, l32_15, l32_16, l32_17, l32_18, l32_19, l32_20, l32_21, l32_22, l32_23, l32_24, l32_25, l32_26, l32_27, l32_28, l32_29, l32_33, l32_40, l32_41, l32_44, l32_45, l32_59, l32_61, l32_91, l32_93, l32_123, l32_125, c_kindNow, w2, w1, o6, o7, ac_eq]
  · rw [if_neg (fun y => z ⟨y.1, by rw [y.2]; exact wix_wd (by decide)⟩)] at g1
    refine Or.inr ⟨g1, fun rk pl yy => ?_⟩
    by_cases y : ck (TL b n)[i] = 4
    · have y0 := ck4.mp y
      rcases y0 with ⟨y1, v, y2⟩ | y1
      · obtain ⟨w1, w2, w3, w4⟩ := c_word (N := N) (X := X) hX h (fun _ => ⟨y1, y2⟩)
        have hne : ¬ v = 2 := fun q => z ⟨y1, by rw [y2, q]⟩
        have o4 : (zz_out < zz_out + (v + 1)) = True := eq_true (by omega)
        have o5 : (zz_out + (v + 1) ≤ zz_out + 41) = True := eq_true (by omega)
        have o8 : (zz_out + (v + 1) = zz_out + 3) = False := eq_false (by omega)
        unfold cf_181_17 cf_181_24 cf_181_28 cf_181_32
        simp (disch := omega) only [ev_S, ev_C, ↓reduceIte, Nat.reduceEqDiff, Nat.reduceLeDiff, Nat.reduceAdd, Nat.reduceMul, Nat.reduceSub, reduceCtorEq, l32_0, l32_1, l32_2, l32_3, l32_4, l32_5, l32_6, l32_7, l32_8, l32_9, l32_10, l32_11, l32_12, l32_13, l32_14, l32_15, l32_16, l32_17, l32_18, l32_19, l32_20, l32_21, l32_22, l32_23, l32_24, l32_25, l32_26, l32_27, l32_28, l32_29, l32_33, l32_40, l32_41, l32_44, l32_45, l32_59, l32_61, l32_91, l32_93, l32_123, l32_125, c_kindNow, w2, w1, o4, o5, o6, o7, o8, ac_eq]
      · rcases ho with q | q | q | q | q <;> omega
    · unfold cf_181_17 cf_181_24
      simp (disch := omega) only [ev_S, ev_C, ↓reduceIte, Nat.reduceEqDiff, Nat.reduceLeDiff, Nat.reduceAdd, Nat.reduceMul, Nat.reduceSub, reduceCtorEq, l32_0, l32_1, l32_2, l32_3, l32_4, l32_5, l32_6, l32_7, l32_8, l32_9, l32_10, l32_11, l32_12, l32_13, l32_14, l32_15, l32_16, l32_17, l32_18, l32_19, l32_20, l32_21, l32_22, l32_23, l32_24, l32_25, l32_26, l32_27, l32_28, l32_29, l32_33, l32_40, l32_41, l32_44, l32_45, l32_59, l32_61, l32_91, l32_93, l32_123, l32_125, c_kindNow, e5, y]
end IFS
