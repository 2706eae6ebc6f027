/-! ===== PURE: run (67): a value does not suit (the reference) ===== -/
section SUT
variable {N : Nat} {s : mS} {n f m b : Nat} {xs : List Nod}
theorem r_unsuit (H : rA s n f m xs) : ∃ s', mf_328_56 N s = some (s', none) ∧ rE s s' n f m (.inl 3) := by
  have T := rA.trb (N := N) H s vfr.rf rfl rfl rfl 3
  refine ⟨_, ?_, T.2⟩
  have T1 := T.1
  unfold mf_328_56 mf_328_65
  simp (disch := omega) only [ev_S, ev_P, ↓reduceIte, Nat.reduceEqDiff, Nat.reduceLeDiff, Nat.reduceAdd, Nat.reduceMul, Nat.reduceSub, reduceCtorEq, l32_0, l32_1, l32_2, l32_3, l32_4, l32_5, l32_6, l32_7, l32_8, l32_9, l32_10, l32_11, l32_12, l32_13, l32_14, l32_15, l32_16, l32_17, l32_18, l32_19, l32_20, l32_21, l32_22, l32_23, l32_24, l32_25, l32_26, l32_27, l32_28, l32_29, l32_33, l32_40, l32_41, l32_44, l32_45, l32_59, l32_61, l32_91, l32_93, l32_123, l32_125, T1]
/-- box -/
theorem r_box (hN : 170000 ≤ N) (H : rA s n f m xs) (hl : xs.length ≤ 3000) : ∃ s', mf_328_66 N (Int32.ofNat 5) (Int32.ofNat n) s = some (s', none) ∧ rE s s' n f m (ansM 3 xs) := by
  have H' := H
  obtain ⟨-, H2, H3, H4, H5, H6, H7, H8, H9, H10⟩ := H'
  obtain ⟨s1, p1, p2⟩ := r_builds (N := N) (k := 3) hN H.g (by unfold mkOk; omega) H3 H4 H5 H9 H10 (Nat.le_add_right _ _) (Nat.le_add_right _ _) (by omega) hl H7
  refine ⟨s1, ?_, p2⟩
  have g1 : ¬ 9000 ≤ n := by omega
  have g2 : ¬ 9000 ≤ n + 1 := by omega
  unfold mf_328_66 mf_328_89 mf_328_95 mf_328_160
  simp (disch := omega) only [ev_S, ev_P, ↓reduceIte, Nat.reduceEqDiff, Nat.reduceLeDiff, Nat.reduceAdd, Nat.reduceMul, Nat.reduceSub, reduceCtorEq, l32_0, l32_1, l32_2, l32_3, l32_4, l32_5, l32_6, l32_7, l32_8, l32_9, l32_10, l32_11, l32_12, l32_13, l32_14, l32_15, l32_16, l32_17, l32_18, l32_19, l32_20, l32_21, l32_22, l32_23, l32_24, l32_25, l32_26, l32_27, l32_28, l32_29, l32_33, l32_40, l32_41, l32_44, l32_45, l32_59, l32_61, l32_91, l32_93, l32_123, l32_125, g1, g2, p1]
end SUT
