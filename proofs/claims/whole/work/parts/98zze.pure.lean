/-! ===== PURE: run (134): what each gives, the reference (2) ===== -/
section EAT
variable {N nw a : Nat} {x y : Nod} {xs : List Nod} {s s' : mS} {n f m : Nat}
theorem r_eachE (hN : 170000 ≤ N) (H : rA s n f m xs) (hl : xs.length ≤ 3000) (hnw : nw < 400) (h84 : s.2.2.1 84 nw = Int32.ofNat n) (h81 : s.2.2.1 81 nw = Int32.ofNat a) (La : LayN (s.2.2.1 47) (Rf f) a y) (hfa : f ≤ 166300) (h0 : ¬ kn y = 0) : ∃ s', mf_317_128 N (Int32.ofNat nw) s = some (s', none) ∧ rE s s' n f m (ansE y xs) := by
  have H' := H
  obtain ⟨⟨h51, hv⟩, H2, H3, H4, H5, H6, H7, H8, H9, H10⟩ := H'
  have kd : s.2.2.1 47 a = Int32.ofNat (kn y) := by rw [(LayN_iff.mp La).2.kd.1]; exact kd_kn
  have ha : a < 166300 := by
    have := LayN.lt La
    omega
  have hk := kn_le (x := y)
  clear hv La
  by_cases c3 : kn y = 3
  · obtain ⟨s1, b1, b2⟩ := rA.builds (N := N) (k := 3) hN H H.g (Or.inr (Or.inr rfl)) H9 H10 (by omega) (by omega) hl H7
    refine ⟨s1, ?_, by unfold ansE; rw [if_pos c3]; exact b2⟩
    rw [c3] at kd
    unfold mf_317_128 mf_317_150 mf_317_156
    simp (disch := omega) only [ev_S, ev_P, ↓reduceIte, Nat.reduceEqDiff, Nat.reduceLeDiff, Nat.reduceAdd, Nat.reduceMul, Nat.reduceSub, reduceCtorEq, l32_0, l32_1, l32_2, l32_3, l32_4, l32_5, l32_6, l32_7, l32_8, l32_9, l32_10, l32_11, l32_12, l32_13, l32_14, l32_15, l32_16, l32_17, l32_18, l32_19, l32_20, l32_21, l32_22, l32_23, l32_24, l32_25, l32_26, l32_27, l32_28, l32_29, l32_33, l32_40, l32_41, l32_44, l32_45, l32_59, l32_61, l32_91, l32_93, l32_123, l32_125, h84, h81, kd, b1]
  · cases xs with
    | nil =>
      have h51 : s.1 51 = Int32.ofNat n := h51
      obtain ⟨N', hN'⟩ : ∃ N', N = N' + 1 := ⟨N - 1, by omega⟩
      have hok : mkOk (kn y) [] := by
        rcases (show kn y = 1 ∨ kn y = 2 by omega) with e | e
        · rw [e]; exact Or.inl ⟨rfl, fun x hx => by cases hx⟩
        · rw [e]; exact Or.inr (Or.inl ⟨rfl, fun x hx => by cases hx⟩)
      obtain ⟨s1, b1, b2⟩ := rA.builds (N := N) (k := kn y) hN H H.g hok H9 H10 (by omega) (by omega) hl H7
      refine ⟨s1, ?_, by unfold ansE; rw [if_neg c3, if_pos rfl]; exact b2⟩
      have n0 : ¬ n < n := by omega
      have e5 : ∀ q r : Int32, mf_317_L8 N N 0 (Int32.ofNat n) q r (Int32.ofNat n) s = mf_317_279 N (Int32.ofNat n) q r s := fun q r => by
        have : mf_317_L8 N N 0 (Int32.ofNat n) q r (Int32.ofNat n) s = mf_317_220 N (mf_317_L8 N N') (Int32.ofNat n) q r (Int32.ofNat n) s := by
          subst hN'
          rfl
        rw [this]
        unfold mf_317_220
        simp (disch := omega) only [ev_S, ev_P, ↓reduceIte, Nat.reduceEqDiff, Nat.reduceLeDiff, Nat.reduceAdd, Nat.reduceMul, Nat.reduceSub, reduceCtorEq, l32_0, l32_1, l32_2, l32_3, l32_4, l32_5, l32_6, l32_7, l32_8, l32_9, l32_10, l32_11, l32_12, l32_13, l32_14, l32_15, l32_16, l32_17, l32_18, l32_19, l32_20, l32_21, l32_22, l32_23, l32_24, l32_25, l32_26, l32_27, l32_28, l32_29, l32_33, l32_40, l32_41, l32_44, l32_45, l32_59, l32_61, l32_91, l32_93, l32_123, l32_125, h51]
      clear b2 H hok
      rcases (show kn y = 1 ∨ kn y = 2 by omega) with e | e
      · rw [e] at b1 kd
        unfold mf_317_128 mf_317_157 mf_317_165 mf_317_180 mf_317_185 mf_317_195 mf_317_214 mf_317_215
        simp (disch := omega) only [ev_S, ev_P, ↓reduceIte, Nat.reduceEqDiff, Nat.reduceLeDiff, Nat.reduceAdd, Nat.reduceMul, Nat.reduceSub, reduceCtorEq, l32_0, l32_1, l32_2, l32_3, l32_4, l32_5, l32_6, l32_7, l32_8, l32_9, l32_10, l32_11, l32_12, l32_13, l32_14, l32_15, l32_16, l32_17, l32_18, l32_19, l32_20, l32_21, l32_22, l32_23, l32_24, l32_25, l32_26, l32_27, l32_28, l32_29, l32_33, l32_40, l32_41, l32_44, l32_45, l32_59, l32_61, l32_91, l32_93, l32_123, l32_125, h84, h81, kd, h51, n0, e5]
        unfold mf_317_279 mf_317_284 mf_317_290 mf_317_316
        simp (disch := omega) only [ev_S, ev_P, ↓reduceIte, Nat.reduceEqDiff, Nat.reduceLeDiff, Nat.reduceAdd, Nat.reduceMul, Nat.reduceSub, reduceCtorEq, l32_0, l32_1, l32_2, l32_3, l32_4, l32_5, l32_6, l32_7, l32_8, l32_9, l32_10, l32_11, l32_12, l32_13, l32_14, l32_15, l32_16, l32_17, l32_18, l32_19, l32_20, l32_21, l32_22, l32_23, l32_24, l32_25, l32_26, l32_27, l32_28, l32_29, l32_33, l32_40, l32_41, l32_44, l32_45, l32_59, l32_61, l32_91, l32_93, l32_123, l32_125, b1]
      · rw [e] at b1 kd
        unfold mf_317_128 mf_317_157 mf_317_165 mf_317_184 mf_317_185 mf_317_195 mf_317_210 mf_317_215
        simp (disch := omega) only [ev_S, ev_P, ↓reduceIte, Nat.reduceEqDiff, Nat.reduceLeDiff, Nat.reduceAdd, Nat.reduceMul, Nat.reduceSub, reduceCtorEq, l32_0, l32_1, l32_2, l32_3, l32_4, l32_5, l32_6, l32_7, l32_8, l32_9, l32_10, l32_11, l32_12, l32_13, l32_14, l32_15, l32_16, l32_17, l32_18, l32_19, l32_20, l32_21, l32_22, l32_23, l32_24, l32_25, l32_26, l32_27, l32_28, l32_29, l32_33, l32_40, l32_41, l32_44, l32_45, l32_59, l32_61, l32_91, l32_93, l32_123, l32_125, h84, h81, kd, h51, n0, e5]
        unfold mf_317_279 mf_317_293 mf_317_298 mf_317_304 mf_317_316
        simp (disch := omega) only [ev_S, ev_P, ↓reduceIte, Nat.reduceEqDiff, Nat.reduceLeDiff, Nat.reduceAdd, Nat.reduceMul, Nat.reduceSub, reduceCtorEq, l32_0, l32_1, l32_2, l32_3, l32_4, l32_5, l32_6, l32_7, l32_8, l32_9, l32_10, l32_11, l32_12, l32_13, l32_14, l32_15, l32_16, l32_17, l32_18, l32_19, l32_20, l32_21, l32_22, l32_23, l32_24, l32_25, l32_26, l32_27, l32_28, l32_29, l32_33, l32_40, l32_41, l32_44, l32_45, l32_59, l32_61, l32_91, l32_93, l32_123, l32_125, b1]
    | cons x xs =>
      have h51 : s.1 51 = Int32.ofNat (n + (xs.length + 1)) := h51
      have L := r_eachS (N := N) hN H hl
      have hlc : xs.length + 1 ≤ 3000 := hl
      have n0 : n < n + (xs.length + 1) := by omega
      have H7' : n + (xs.length + 1) < 9000 := H7
      have E : mf_317_128 N (Int32.ofNat nw) s = mf_317_279 N (Int32.ofNat n) (bI (aK 0 (x :: xs))) (bI (aK 1 (x :: xs))) s := by
        rw [← L]
        clear L H
        generalize kn y = ky at *
        unfold mf_317_128 mf_317_157 mf_317_180 mf_317_185 mf_317_210 mf_317_215
        simp (disch := omega) only [ev_S, ev_P, ↓reduceIte, Nat.reduceEqDiff, Nat.reduceLeDiff, Nat.reduceAdd, Nat.reduceMul, Nat.reduceSub, reduceCtorEq, l32_0, l32_1, l32_2, l32_3, l32_4, l32_5, l32_6, l32_7, l32_8, l32_9, l32_10, l32_11, l32_12, l32_13, l32_14, l32_15, l32_16, l32_17, l32_18, l32_19, l32_20, l32_21, l32_22, l32_23, l32_24, l32_25, l32_26, l32_27, l32_28, l32_29, l32_33, l32_40, l32_41, l32_44, l32_45, l32_59, l32_61, l32_91, l32_93, l32_123, l32_125, h84, h81, kd, c3, h51, n0]
      rw [E]
      have eA : ansE y (x :: xs) = ansL (x :: xs) := by
        unfold ansE
        rw [if_neg c3, if_neg (by intro q; cases q)]
      rw [eA]
      unfold ansL bI
      by_cases A : aK 0 (x :: xs) = true
      · rw [if_pos A, if_pos A]
        obtain ⟨s1, b1, b2⟩ := rA.builds (N := N) (k := 1) hN H H.g (Or.inl ⟨rfl, fun x hx => (kd_iff (k := 0) (by omega)).mpr (aK_i.mp A x hx)⟩) H9 H10 (by omega) (by omega) hl H7
        refine ⟨s1, ?_, b2⟩
        unfold mf_317_279 mf_317_284 mf_317_290 mf_317_316
        simp (disch := omega) only [ev_S, ev_P, ↓reduceIte, Nat.reduceEqDiff, Nat.reduceLeDiff, Nat.reduceAdd, Nat.reduceMul, Nat.reduceSub, reduceCtorEq, l32_0, l32_1, l32_2, l32_3, l32_4, l32_5, l32_6, l32_7, l32_8, l32_9, l32_10, l32_11, l32_12, l32_13, l32_14, l32_15, l32_16, l32_17, l32_18, l32_19, l32_20, l32_21, l32_22, l32_23, l32_24, l32_25, l32_26, l32_27, l32_28, l32_29, l32_33, l32_40, l32_41, l32_44, l32_45, l32_59, l32_61, l32_91, l32_93, l32_123, l32_125, b1]
      · rw [if_neg A, if_neg A]
        by_cases B : aK 1 (x :: xs) = true
        · rw [if_pos B, if_pos B]
          obtain ⟨s1, b1, b2⟩ := rA.builds (N := N) (k := 2) hN H H.g (Or.inr (Or.inl ⟨rfl, fun x hx => (kd_iff (k := 1) (by omega)).mpr (aK_i.mp B x hx)⟩)) H9 H10 (by omega) (by omega) hl H7
          refine ⟨s1, ?_, b2⟩
          unfold mf_317_279 mf_317_293 mf_317_298 mf_317_304 mf_317_316
          simp (disch := omega) only [ev_S, ev_P, ↓reduceIte, Nat.reduceEqDiff, Nat.reduceLeDiff, Nat.reduceAdd, Nat.reduceMul, Nat.reduceSub, reduceCtorEq, l32_0, l32_1, l32_2, l32_3, l32_4, l32_5, l32_6, l32_7, l32_8, l32_9, l32_10, l32_11, l32_12, l32_13, l32_14, l32_15, l32_16, l32_17, l32_18, l32_19, l32_20, l32_21, l32_22, l32_23, l32_24, l32_25, l32_26, l32_27, l32_28, l32_29, l32_33, l32_40, l32_41, l32_44, l32_45, l32_59, l32_61, l32_91, l32_93, l32_123, l32_125, b1]
        · rw [if_neg B, if_neg B]
          obtain ⟨b1, b2⟩ := rG.trb (N := N) H H.g (by omega) 3
          refine ⟨_, ?_, b2⟩
          unfold mf_317_279 mf_317_293 mf_317_307 mf_317_316
          simp (disch := omega) only [ev_S, ev_P, ↓reduceIte, Nat.reduceEqDiff, Nat.reduceLeDiff, Nat.reduceAdd, Nat.reduceMul, Nat.reduceSub, reduceCtorEq, l32_0, l32_1, l32_2, l32_3, l32_4, l32_5, l32_6, l32_7, l32_8, l32_9, l32_10, l32_11, l32_12, l32_13, l32_14, l32_15, l32_16, l32_17, l32_18, l32_19, l32_20, l32_21, l32_22, l32_23, l32_24, l32_25, l32_26, l32_27, l32_28, l32_29, l32_33, l32_40, l32_41, l32_44, l32_45, l32_59, l32_61, l32_91, l32_93, l32_123, l32_125, b1]
end EAT
