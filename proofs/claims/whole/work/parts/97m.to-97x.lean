-- ### 97m.pure.lean.txt
section
/-! ===== PURE: run (66): do all values suit (the reference's builtIn) ===== -/
section SUL
variable {N : Nat} {s : mS} {n f m b : Nat} {xs : List Nod}
def suP (b : Nat) (xs : List Nod) (i : Nat) : Bool := (List.range i).all fun j => suB b j (kn (xs.getD j (nZ 0))) (kn (xs.getD 0 (nZ 0)))
theorem suP_s {i : Nat} : suP b xs (i + 1) = (suP b xs i && suB b i (kn (xs.getD i (nZ 0))) (kn (xs.getD 0 (nZ 0)))) := by
  unfold suP
  rw [List.range_succ, List.all_append]
  show (_ && (_ && true)) = _
  rw [Bool.and_true]
theorem r_suits (hN : 170000 ≤ N) (H : rA s n f m xs) (hb : b < 28) (hx : b = 5 ∨ xs.length ≤ 2) : mf_328 N (Int32.ofNat b) (Int32.ofNat n) s = if suP b xs xs.length = true then mf_328_66 N (Int32.ofNat b) (Int32.ofNat n) s else mf_328_56 N s := by
  have H' := H
  obtain ⟨H1, H2, H3, H4, H5, H6, H7, H8, H9, H10⟩ := H'
  have h51 : s.1 51 = Int32.ofNat (n + xs.length) := H1.1
  have hv := H.g.2.1
  have E1 : mf_328 N (Int32.ofNat b) (Int32.ofNat n) s = mf_328_L17 N N 0 (Int32.ofNat b) (Int32.ofNat n) (Int32.ofNat 1) (Int32.ofNat (n + 0)) s := rfl
  rw [E1]
  refine lp (fun F i (c : Bool) => mf_328_L17 N F 0 (Int32.ofNat b) (Int32.ofNat n) (suI c) (Int32.ofNat (n + i)) s) xs.length (fun i c => c = suP b xs i) (fun R => R = if suP b xs xs.length = true then mf_328_66 N (Int32.ofNat b) (Int32.ofNat n) s else mf_328_56 N s) ?_ ?_ xs.length 0 N true (Nat.zero_add _) (by omega) rfl
  · intro F i c hi hP _
    left
    refine ⟨suP b xs (i + 1), rfl, ?_⟩
    subst hP
    rw [suP_s]
    show mf_328_5 N (mf_328_L17 N F) (Int32.ofNat b) (Int32.ofNat n) (suI (suP b xs i)) (Int32.ofNat (n + i)) s = _
    have n1 : ¬ n + xs.length ≤ n + i := by omega
    cases suP b xs i with
    | false =>
      rw [Bool.false_and]
      show mf_328_5 N (mf_328_L17 N F) (Int32.ofNat b) (Int32.ofNat n) (Int32.ofNat 0) (Int32.ofNat (n + i)) s = mf_328_L17 N F 0 (Int32.ofNat b) (Int32.ofNat n) (Int32.ofNat 0) (Int32.ofNat (n + i + 1)) s
      unfold mf_328_5 mf_328_14 mf_328_44 mf_328_45
      simp (disch := omega) only [ev_S, ev_P, ↓reduceIte, Nat.reduceEqDiff, Nat.reduceLeDiff, Nat.reduceAdd, Nat.reduceMul, Nat.reduceSub, reduceCtorEq, l32_0, l32_1, l32_2, l32_3, l32_4, l32_5, l32_6, l32_7, l32_8, l32_9, l32_10, l32_11, l32_12, l32_13, l32_14, l32_15, l32_16, l32_17, l32_18, l32_19, l32_20, l32_21, l32_22, l32_23, l32_24, l32_25, l32_26, l32_27, l32_28, l32_29, l32_33, l32_40, l32_41, l32_44, l32_45, l32_59, l32_61, l32_91, l32_93, l32_123, l32_125, h51, n1]
    | true =>
      rw [Bool.true_and]
      have h0 : 0 < xs.length := by omega
      have k1 := r_kindAt (N := N) (hv i hi) (by omega) (by omega)
      have k2 := r_kindAt (N := N) (hv 0 h0) (by omega) (by omega)
      rw [kd_kn] at k1 k2
      have k2 : mf_292 N (Int32.ofNat n) s = _ := k2
      have g1 : xs.getD i (nZ 0) = xs[i] := by rw [List.getD_eq_getElem?_getD, List.getElem?_eq_getElem hi]; rfl
      have g0 : xs.getD 0 (nZ 0) = xs[0] := by rw [List.getD_eq_getElem?_getD, List.getElem?_eq_getElem h0]; rfl
      rw [g1, g0]
      have l1 := kn_le (x := xs[i])
      have l2 := kn_le (x := xs[0])
      have su : mf_327 N (Int32.ofNat b) (Int32.ofNat i) (Int32.ofNat (kn xs[i])) (Int32.ofNat (kn xs[0])) s = some (s, some (.int (suI (suB b i (kn xs[i]) (kn xs[0]))))) := by
        rcases hx with rfl | hx
        · exact r_suit5
        · exact r_suit0 (by omega) (by omega) hb (by omega)
      have su : mf_327 N (Int32.ofNat b) (Int32.ofNat (n + i - n)) (Int32.ofNat (kn xs[i])) (Int32.ofNat (kn xs[0])) s = some (s, some (.int (suI (suB b i (kn xs[i]) (kn xs[0]))))) := by
        rw [Nat.add_sub_cancel_left]
        exact su
      show mf_328_5 N (mf_328_L17 N F) (Int32.ofNat b) (Int32.ofNat n) (Int32.ofNat 1) (Int32.ofNat (n + i)) s = mf_328_L17 N F 0 (Int32.ofNat b) (Int32.ofNat n) (suI (suB b i (kn xs[i]) (kn xs[0]))) (Int32.ofNat (n + i + 1)) s
      generalize suB b i (kn xs[i]) (kn xs[0]) = c at *
      generalize kn xs[i] = p1 at *
      generalize kn xs[0] = p2 at *
      cases c with
      | false =>
        have su : mf_327 N (Int32.ofNat b) (Int32.ofNat (n + i - n)) (Int32.ofNat p1) (Int32.ofNat p2) s = some (s, some (.int (Int32.ofNat 0))) := su
        show _ = mf_328_L17 N F 0 (Int32.ofNat b) (Int32.ofNat n) (Int32.ofNat 0) (Int32.ofNat (n + i + 1)) s
        unfold mf_328_5 mf_328_14 mf_328_18 mf_328_29 mf_328_34 mf_328_37 mf_328_44 mf_328_45
        have sb : Int32.ofNat (n + i) - Int32.ofNat n = Int32.ofNat (n + i - n) := (Int32.ofNat_sub _ _ (by omega)).symm
        simp (disch := omega) only [ev_S, ev_P, ↓reduceIte, Nat.reduceEqDiff, Nat.reduceLeDiff, Nat.reduceAdd, Nat.reduceMul, Nat.reduceSub, reduceCtorEq, l32_0, l32_1, l32_2, l32_3, l32_4, l32_5, l32_6, l32_7, l32_8, l32_9, l32_10, l32_11, l32_12, l32_13, l32_14, l32_15, l32_16, l32_17, l32_18, l32_19, l32_20, l32_21, l32_22, l32_23, l32_24, l32_25, l32_26, l32_27, l32_28, l32_29, l32_33, l32_40, l32_41, l32_44, l32_45, l32_59, l32_61, l32_91, l32_93, l32_123, l32_125, h51, n1, k1, k2, sb, su]
      | true =>
        have su : mf_327 N (Int32.ofNat b) (Int32.ofNat (n + i - n)) (Int32.ofNat p1) (Int32.ofNat p2) s = some (s, some (.int (Int32.ofNat 1))) := su
        show _ = mf_328_L17 N F 0 (Int32.ofNat b) (Int32.ofNat n) (Int32.ofNat 1) (Int32.ofNat (n + i + 1)) s
        unfold mf_328_5 mf_328_14 mf_328_18 mf_328_29 mf_328_34 mf_328_37 mf_328_40 mf_328_45
        have sb : Int32.ofNat (n + i) - Int32.ofNat n = Int32.ofNat (n + i - n) := (Int32.ofNat_sub _ _ (by omega)).symm
        simp (disch := omega) only [ev_S, ev_P, ↓reduceIte, Nat.reduceEqDiff, Nat.reduceLeDiff, Nat.reduceAdd, Nat.reduceMul, Nat.reduceSub, reduceCtorEq, l32_0, l32_1, l32_2, l32_3, l32_4, l32_5, l32_6, l32_7, l32_8, l32_9, l32_10, l32_11, l32_12, l32_13, l32_14, l32_15, l32_16, l32_17, l32_18, l32_19, l32_20, l32_21, l32_22, l32_23, l32_24, l32_25, l32_26, l32_27, l32_28, l32_29, l32_33, l32_40, l32_41, l32_44, l32_45, l32_59, l32_61, l32_91, l32_93, l32_123, l32_125, h51, n1, k1, k2, sb, su]
  · intro F c hP
    subst hP
    show mf_328_5 N (mf_328_L17 N F) (Int32.ofNat b) (Int32.ofNat n) (suI (suP b xs xs.length)) (Int32.ofNat (n + xs.length)) s = _
    clear hv H1 H
    generalize xs.length = l at *
    cases suP b xs l with
    | false =>
      show mf_328_5 N (mf_328_L17 N F) (Int32.ofNat b) (Int32.ofNat n) (Int32.ofNat 0) (Int32.ofNat (n + l)) s = mf_328_56 N s
      unfold mf_328_5 mf_328_52
      simp (disch := omega) only [ev_S, ev_P, ↓reduceIte, Nat.reduceEqDiff, Nat.reduceLeDiff, Nat.reduceAdd, Nat.reduceMul, Nat.reduceSub, reduceCtorEq, l32_0, l32_1, l32_2, l32_3, l32_4, l32_5, l32_6, l32_7, l32_8, l32_9, l32_10, l32_11, l32_12, l32_13, l32_14, l32_15, l32_16, l32_17, l32_18, l32_19, l32_20, l32_21, l32_22, l32_23, l32_24, l32_25, l32_26, l32_27, l32_28, l32_29, l32_33, l32_40, l32_41, l32_44, l32_45, l32_59, l32_61, l32_91, l32_93, l32_123, l32_125, h51]
    | true =>
      show mf_328_5 N (mf_328_L17 N F) (Int32.ofNat b) (Int32.ofNat n) (Int32.ofNat 1) (Int32.ofNat (n + l)) s = mf_328_66 N (Int32.ofNat b) (Int32.ofNat n) s
      unfold mf_328_5 mf_328_52
      simp (disch := omega) only [ev_S, ev_P, ↓reduceIte, Nat.reduceEqDiff, Nat.reduceLeDiff, Nat.reduceAdd, Nat.reduceMul, Nat.reduceSub, reduceCtorEq, l32_0, l32_1, l32_2, l32_3, l32_4, l32_5, l32_6, l32_7, l32_8, l32_9, l32_10, l32_11, l32_12, l32_13, l32_14, l32_15, l32_16, l32_17, l32_18, l32_19, l32_20, l32_21, l32_22, l32_23, l32_24, l32_25, l32_26, l32_27, l32_28, l32_29, l32_33, l32_40, l32_41, l32_44, l32_45, l32_59, l32_61, l32_91, l32_93, l32_123, l32_125, h51]
end SUL
end
-- ### 97n.pure.lean.txt
section
/-! ===== PURE: run (67): a value does not suit (the reference) ===== -/
section SUT
variable {N : Nat} {s : mS} {n f m b : Nat} {xs : List Nod}
theorem r_unsuit (H : rA s n f m xs) : ∃ s', mf_328_56 N s = some (s', none) ∧ rE s s' n f m (.inl 3) := by
  have T := rA.trb (N := N) H s vfr.rf rfl rfl rfl 3
  refine ⟨_, ?_, T.2⟩
  have T1 := T.1
  unfold mf_328_56 mf_328_65
  simp (disch := omega) only [ev_S, ev_P, ↓reduceIte, Nat.reduceEqDiff, Nat.reduceLeDiff, Nat.reduceAdd, Nat.reduceMul, Nat.reduceSub, reduceCtorEq, l32_0, l32_1, l32_2, l32_3, l32_4, l32_5, l32_6, l32_7, l32_8, l32_9, l32_10, l32_11, l32_12, l32_13, l32_14, l32_15, l32_16, l32_17, l32_18, l32_19, l32_20, l32_21, l32_22, l32_23, l32_24, l32_25, l32_26, l32_27, l32_28, l32_29, l32_33, l32_40, l32_41, l32_44, l32_45, l32_59, l32_61, l32_91, l32_93, l32_123, l32_125, T1]
/-- box -/
theorem r_box (hN : 170000 ≤ N) (H : rA s n f m xs) (hl : xs.length ≤ 3000) : ∃ s', mf_328_66 N (Int32.ofNat 5) (Int32.ofNat n) s = some (s', none) ∧ rE s s' n f m (ansM 3 xs) := by
  have H' := H
  obtain ⟨-, H2, H3, H4, H5, H6, H7, H8, H9, H10⟩ := H'
  obtain ⟨s1, p1, p2⟩ := r_builds (N := N) (k := 3) hN H.g (by unfold mkOk; omega) H3 H4 H5 H9 H10 (Nat.le_add_right _ _) (Nat.le_add_right _ _) (by omega) hl H7
  refine ⟨s1, ?_, p2⟩
  have g1 : ¬ 9000 ≤ n := by omega
  have g2 : ¬ 9000 ≤ n + 1 := by omega
  unfold mf_328_66 mf_328_89 mf_328_95 mf_328_160
  simp (disch := omega) only [ev_S, ev_P, ↓reduceIte, Nat.reduceEqDiff, Nat.reduceLeDiff, Nat.reduceAdd, Nat.reduceMul, Nat.reduceSub, reduceCtorEq, l32_0, l32_1, l32_2, l32_3, l32_4, l32_5, l32_6, l32_7, l32_8, l32_9, l32_10, l32_11, l32_12, l32_13, l32_14, l32_15, l32_16, l32_17, l32_18, l32_19, l32_20, l32_21, l32_22, l32_23, l32_24, l32_25, l32_26, l32_27, l32_28, l32_29, l32_33, l32_40, l32_41, l32_44, l32_45, l32_59, l32_61, l32_91, l32_93, l32_123, l32_125, g1, g2, p1]
end SUT
end
-- ### 97o.pure.lean.txt
section
/-! ===== PURE: run (68): the reference's builtIn, by the number ===== -/
section RDS
variable {N : Nat} {s s' : mS} {n b : Nat}
theorem r_to330 (hn : n + 200 < 9000) (hb : b < 5) (h : mf_330 N (Int32.ofNat b) (s.2.2.1 50 n) (s.2.2.1 50 (n + 1)) (Int32.ofNat n) s = some (s', none)) : mf_328_66 N (Int32.ofNat b) (Int32.ofNat n) s = some (s', none) := by
  have g1 : ¬ 9000 ≤ n := by omega
  have g2 : ¬ 9000 ≤ n + 1 := by omega
  have g3 : ¬ b = 5 := by omega
  have g4 : ¬ 5 ≤ b := by omega
  unfold mf_328_66 mf_328_98 mf_328_103 mf_328_113 mf_328_160
  simp (disch := omega) only [ev_S, ev_P, ↓reduceIte, Nat.reduceEqDiff, Nat.reduceLeDiff, Nat.reduceAdd, Nat.reduceMul, Nat.reduceSub, reduceCtorEq, l32_0, l32_1, l32_2, l32_3, l32_4, l32_5, l32_6, l32_7, l32_8, l32_9, l32_10, l32_11, l32_12, l32_13, l32_14, l32_15, l32_16, l32_17, l32_18, l32_19, l32_20, l32_21, l32_22, l32_23, l32_24, l32_25, l32_26, l32_27, l32_28, l32_29, l32_33, l32_40, l32_41, l32_44, l32_45, l32_59, l32_61, l32_91, l32_93, l32_123, l32_125, g1, g2, g3, g4, h]
theorem r_to333 (hn : n + 200 < 9000) (hb : 5 < b ∧ b < 16) (h : mf_333 N (Int32.ofNat b) (s.2.2.1 50 n) (Int32.ofNat n) s = some (s', none)) : mf_328_66 N (Int32.ofNat b) (Int32.ofNat n) s = some (s', none) := by
  have g1 : ¬ 9000 ≤ n := by omega
  have g2 : ¬ 9000 ≤ n + 1 := by omega
  have g3 : ¬ b = 5 := by omega
  have g4 : 5 ≤ b := by omega
  have g5 : ¬ 16 ≤ b := by omega
  unfold mf_328_66 mf_328_98 mf_328_116 mf_328_122 mf_328_130 mf_328_160
  simp (disch := omega) only [ev_S, ev_P, ↓reduceIte, Nat.reduceEqDiff, Nat.reduceLeDiff, Nat.reduceAdd, Nat.reduceMul, Nat.reduceSub, reduceCtorEq, l32_0, l32_1, l32_2, l32_3, l32_4, l32_5, l32_6, l32_7, l32_8, l32_9, l32_10, l32_11, l32_12, l32_13, l32_14, l32_15, l32_16, l32_17, l32_18, l32_19, l32_20, l32_21, l32_22, l32_23, l32_24, l32_25, l32_26, l32_27, l32_28, l32_29, l32_33, l32_40, l32_41, l32_44, l32_45, l32_59, l32_61, l32_91, l32_93, l32_123, l32_125, g1, g2, g3, g4, g5, h]
theorem r_to335 (hn : n + 200 < 9000) (hb : 16 ≤ b ∧ b < 19) (h : mf_335 N (Int32.ofNat b) (s.2.2.1 50 n) (Int32.ofNat n) s = some (s', none)) : mf_328_66 N (Int32.ofNat b) (Int32.ofNat n) s = some (s', none) := by
  have g1 : ¬ 9000 ≤ n := by omega
  have g2 : ¬ 9000 ≤ n + 1 := by omega
  have g3 : ¬ b = 5 := by omega
  have g4 : 5 ≤ b := by omega
  have g5 : 16 ≤ b := by omega
  have g6 : ¬ 19 ≤ b := by omega
  unfold mf_328_66 mf_328_98 mf_328_116 mf_328_133 mf_328_139 mf_328_147 mf_328_160
  simp (disch := omega) only [ev_S, ev_P, ↓reduceIte, Nat.reduceEqDiff, Nat.reduceLeDiff, Nat.reduceAdd, Nat.reduceMul, Nat.reduceSub, reduceCtorEq, l32_0, l32_1, l32_2, l32_3, l32_4, l32_5, l32_6, l32_7, l32_8, l32_9, l32_10, l32_11, l32_12, l32_13, l32_14, l32_15, l32_16, l32_17, l32_18, l32_19, l32_20, l32_21, l32_22, l32_23, l32_24, l32_25, l32_26, l32_27, l32_28, l32_29, l32_33, l32_40, l32_41, l32_44, l32_45, l32_59, l32_61, l32_91, l32_93, l32_123, l32_125, g1, g2, g3, g4, g5, g6, h]
theorem r_to347 (hn : n + 200 < 9000) (hb : 19 ≤ b ∧ b < 28) (h : mf_347 N (Int32.ofNat b) (s.2.2.1 50 n) (s.2.2.1 50 (n + 1)) (Int32.ofNat n) s = some (s', none)) : mf_328_66 N (Int32.ofNat b) (Int32.ofNat n) s = some (s', none) := by
  have g1 : ¬ 9000 ≤ n := by omega
  have g2 : ¬ 9000 ≤ n + 1 := by omega
  have g3 : ¬ b = 5 := by omega
  have g4 : 5 ≤ b := by omega
  have g5 : 16 ≤ b := by omega
  have g6 : 19 ≤ b := by omega
  unfold mf_328_66 mf_328_98 mf_328_116 mf_328_133 mf_328_150 mf_328_160
  simp (disch := omega) only [ev_S, ev_P, ↓reduceIte, Nat.reduceEqDiff, Nat.reduceLeDiff, Nat.reduceAdd, Nat.reduceMul, Nat.reduceSub, reduceCtorEq, l32_0, l32_1, l32_2, l32_3, l32_4, l32_5, l32_6, l32_7, l32_8, l32_9, l32_10, l32_11, l32_12, l32_13, l32_14, l32_15, l32_16, l32_17, l32_18, l32_19, l32_20, l32_21, l32_22, l32_23, l32_24, l32_25, l32_26, l32_27, l32_28, l32_29, l32_33, l32_40, l32_41, l32_44, l32_45, l32_59, l32_61, l32_91, l32_93, l32_123, l32_125, g1, g2, g3, g4, g5, g6, h]
theorem r_347_27 {x y z : Int32} : mf_347 N (Int32.ofNat 27) x y z s = mf_347_186 N x y z s := by
  unfold mf_347 mf_347_0
  rw [if_pos (by decide)]
theorem r_347_19 {x y z : Int32} : mf_347 N (Int32.ofNat 19) x y z s = mf_347_48 N x y z s := by
  unfold mf_347 mf_347_0
  rw [if_neg (by decide), if_pos (by decide)]
theorem r_347_20 {x y z : Int32} : mf_347 N (Int32.ofNat 20) x y z s = mf_347_57 N (Int32.ofNat 20) x y z s := by
  unfold mf_347 mf_347_0
  rw [if_neg (by decide), if_neg (by decide), if_pos (by decide)]
theorem r_347_21 {x y z : Int32} : mf_347 N (Int32.ofNat 21) x y z s = mf_347_57 N (Int32.ofNat 21) x y z s := by
  unfold mf_347 mf_347_0
  rw [if_neg (by decide), if_neg (by decide), if_neg (by decide), if_pos (by decide)]
theorem r_347_22 {x y z : Int32} : mf_347 N (Int32.ofNat 22) x y z s = mf_347_67 N x y z s := by
  unfold mf_347 mf_347_0
  rw [if_neg (by decide), if_neg (by decide), if_neg (by decide), if_neg (by decide), if_pos (by decide)]
theorem r_347_23 {x y z : Int32} : mf_347 N (Int32.ofNat 23) x y z s = mf_347_76 N x y z s := by
  unfold mf_347 mf_347_0
  rw [if_neg (by decide), if_neg (by decide), if_neg (by decide), if_neg (by decide), if_neg (by decide), if_pos (by decide)]
theorem r_347_24 {x y z : Int32} : mf_347 N (Int32.ofNat 24) x y z s = mf_347_85 N x y z s := by
  unfold mf_347 mf_347_0
  rw [if_neg (by decide), if_neg (by decide), if_neg (by decide), if_neg (by decide), if_neg (by decide), if_neg (by decide), if_pos (by decide)]
theorem r_347_25 {x y z : Int32} : mf_347 N (Int32.ofNat 25) x y z s = mf_347_168 N x y z s := by
  unfold mf_347 mf_347_0
  rw [if_neg (by decide), if_neg (by decide), if_neg (by decide), if_neg (by decide), if_neg (by decide), if_neg (by decide), if_neg (by decide), if_pos (by decide)]
theorem r_347_26 {x y z : Int32} : mf_347 N (Int32.ofNat 26) x y z s = mf_347_177 N x y z s := by
  unfold mf_347 mf_347_0
  rw [if_neg (by decide), if_neg (by decide), if_neg (by decide), if_neg (by decide), if_neg (by decide), if_neg (by decide), if_neg (by decide), if_neg (by decide), if_pos (by decide)]
end RDS
end
-- ### 97p.pure.lean.txt
section
/-! ===== PURE: run (69): the built-ins of one value (the reference) ===== -/
section RB1
variable {N : Nat} {s : mS} {n f m b : Nat} {x : Nod}
/-- what a built-in of one value answers, if the value suits -/
def ansB1 (b : Nat) (x : Nod) : Ans :=
  if b ≤ 2 then ansC (if b = 1 then 1 else 0) (if b = 2 then 3 else 1) (if b < 2 then 64 else 20) (ivN x)
  else if b = 4 then ansW (rvN x)
  else if b = 6 then .inr (nZ (Int32.ofNat (szN x)))
  else if b = 7 then ansM 1 (((tvN x).map fun r => Int32.ofNat r.length).map nZ)
  else if b = 8 then .inr (nZ (Int32.ofNat (kn x)))
  else if b = 9 ∨ b = 10 ∨ b = 11 then ansD b x
  else if b = 12 ∨ b = 13 ∨ b = 14 then ansK b x
  else if b = 15 then ansM (kn x) (pts x).reverse
  else if b = 16 then ansFl x
  else if b = 17 then ansTr (tvN x)
  else ansGp (rvN x)
theorem r_blt1 (hN : 170000 ≤ N) (H : rA s n f m [x]) (hb : b ≤ 18) (h3 : ¬ b = 3 ∧ ¬ b = 5) (hs : suB b 0 (kn x) (kn x) = true) : ∃ s', mf_328_66 N (Int32.ofNat b) (Int32.ofNat n) s = some (s', none) ∧ rE s s' n f m (ansB1 b x) := by
  have H' := H
  obtain ⟨-, H2, H3, H4, H5, H6, H7, H8, H9, H10⟩ := H'
  have hx : rvl (s.2.2.1 47) f (s.2.2.1 49 n) (s.2.2.1 50 n) x := H.g.2.1 0 (Nat.lt_succ_self 0)
  have wx := H9 x List.mem_cons_self
  have dx := H10 x List.mem_cons_self
  have lx := kn_le (x := x)
  have h1 : b = 0 ∨ b = 1 ∨ b = 2 ∨ b = 4 ∨ b = 6 ∨ b = 7 ∨ b = 8 ∨ b = 9 ∨ b = 10 ∨ b = 11 ∨ b = 12 ∨ b = 13 ∨ b = 14 ∨ b = 15 ∨ b = 16 ∨ b = 17 ∨ b = 18 := by omega
  have A := r_oneA (N := N) hN H hx rfl wx dx
  have to3 : ∀ {b : Nat} {r : Ans}, b < 5 → (∃ s', mf_330 N (Int32.ofNat b) (s.2.2.1 50 n) (s.2.2.1 50 (n + 1)) (Int32.ofNat n) s = some (s', none) ∧ rE s s' n f m r) → ∃ s', mf_328_66 N (Int32.ofNat b) (Int32.ofNat n) s = some (s', none) ∧ rE s s' n f m r := fun hb ⟨s', p, q⟩ => ⟨s', r_to330 H8 hb p, q⟩
  have to4 : ∀ {b : Nat} {r : Ans}, 5 < b ∧ b < 16 → (∃ s', mf_333 N (Int32.ofNat b) (s.2.2.1 50 n) (Int32.ofNat n) s = some (s', none) ∧ rE s s' n f m r) → ∃ s', mf_328_66 N (Int32.ofNat b) (Int32.ofNat n) s = some (s', none) ∧ rE s s' n f m r := fun hb ⟨s', p, q⟩ => ⟨s', r_to333 H8 hb p, q⟩
  have to5 : ∀ {b : Nat} {r : Ans}, 16 ≤ b ∧ b < 19 → (∃ s', mf_335 N (Int32.ofNat b) (s.2.2.1 50 n) (Int32.ofNat n) s = some (s', none) ∧ rE s s' n f m r) → ∃ s', mf_328_66 N (Int32.ofNat b) (Int32.ofNat n) s = some (s', none) ∧ rE s s' n f m r := fun hb ⟨s', p, q⟩ => ⟨s', r_to335 H8 hb p, q⟩
  have e0 : kn x = 0 → s.2.2.1 50 n = ivN x := fun h => (hx.iv h).2
  have th : ¬ kn x = 0 → ∃ a : Nat, s.2.2.1 50 n = Int32.ofNat a ∧ LayN (s.2.2.1 47) (Rf f) a x := fun h => (hx.th h).2
  rcases h1 with rfl | rfl | rfl | rfl | rfl | rfl | rfl | rfl | rfl | rfl | rfl | rfl | rfl | rfl | rfl | rfl | rfl
  · have k : kn x = 0 := by simpa [suB] using hs
    refine to3 (by omega) ?_
    rw [e0 k]
    exact r_mk0 (b := 0) hN (by omega) H
  · have k : kn x = 0 := by simpa [suB] using hs
    refine to3 (by omega) ?_
    rw [e0 k]
    exact r_mk0 (b := 1) hN (by omega) H
  · have k : kn x = 0 := by simpa [suB] using hs
    refine to3 (by omega) ?_
    rw [e0 k]
    exact r_mk0 (b := 2) hN (by omega) H
  · have k : kn x = 1 := by simpa [suB] using hs
    obtain ⟨a, e, La⟩ := th (by omega)
    refine to3 (by omega) ?_
    rw [e]
    exact r_mk4 hN H La k wx
  · have k : 0 < kn x := by simpa [suB] using hs
    exact to4 (by omega) (A.1 (by omega))
  · have k : kn x = 2 := by simpa [suB] using hs
    exact to4 (by omega) (A.2.2.1 k)
  · exact to4 (by omega) A.2.1
  · have k : kn x < 3 := by simpa [suB] using hs
    exact to4 (by omega) (r_dgs (b := 9) hN (by omega) H hx rfl wx (by omega) (by omega))
  · have k : kn x = 1 ∨ kn x = 2 := by simpa [suB] using hs
    exact to4 (by omega) (r_dgs (b := 10) hN (by omega) H hx rfl wx (by omega) (by omega))
  · have k : kn x = 1 ∨ kn x = 2 := by simpa [suB] using hs
    exact to4 (by omega) (r_dgs (b := 11) hN (by omega) H hx rfl wx (by omega) (by omega))
  · have k : kn x = 1 ∨ kn x = 2 := by simpa [suB] using hs
    exact to4 (by omega) (r_eachR (b := 12) hN (by omega) H hx rfl wx (by omega))
  · have k : kn x = 1 ∨ kn x = 2 := by simpa [suB] using hs
    exact to4 (by omega) (r_eachR (b := 13) hN (by omega) H hx rfl wx (by omega))
  · have k : kn x = 1 := by simpa [suB] using hs
    exact to4 (by omega) (r_eachR (b := 14) hN (by omega) H hx rfl wx (by omega))
  · have k : 0 < kn x := by simpa [suB] using hs
    exact to4 (by omega) (A.2.2.2 (by omega))
  · have k : 1 < kn x := by simpa [suB] using hs
    obtain ⟨a, e, La⟩ := th (by omega)
    refine to5 (by omega) ?_
    rw [e]
    exact r_flat hN H La (by omega) wx dx
  · have k : kn x = 2 := by simpa [suB] using hs
    obtain ⟨a, e, La⟩ := th (by omega)
    refine to5 (by omega) ?_
    rw [e]
    exact r_turn hN H La k wx
  · have k : kn x = 1 := by simpa [suB] using hs
    obtain ⟨a, e, La⟩ := th (by omega)
    refine to5 (by omega) ?_
    rw [e]
    exact r_grp hN H (lay1 La k) (rv_wf k wx)
end RB1
end
-- ### 97q.pure.lean.txt
section
/-! ===== PURE: run (70): the built-ins of two values (the reference) ===== -/
section RB2
variable {N : Nat} {s : mS} {n f m b : Nat} {x y : Nod}
/-- what a built-in of two values answers, if both suit -/
def ansB2 (b : Nat) (x y : Nod) : Ans :=
  if b = 3 then ansG (ivN x) (ivN y)
  else if b = 19 then ansJ x y
  else if b = 20 then ansTk y (ivN x)
  else if b = 21 then ansDr y (ivN x)
  else if b = 22 then ansX (rvN x) (rvN y)
  else if b = 23 then ansP x (rvN y)
  else if b = 24 then ansF (rvN x) y
  else if b = 25 then ansPd (tvN x) (ivN y)
  else if b = 26 then ansO (rvN x) (rvN y)
  else .inr (nZ (sb1 (serN x = serN y)))
theorem jk_su (lx : kn x ≤ 3) (ly : kn y ≤ 3) (ht : suB 19 1 (kn y) (kn x) = true) : ¬ (jkN x y = 2 ∧ (kn x = 0 ∨ kn y = 0)) := by
  unfold jkN
  generalize kn x = p at *
  generalize kn y = q at *
  have h2 : p = 0 ∨ p = 1 ∨ p = 2 ∨ p = 3 := by omega
  have h3 : q = 0 ∨ q = 1 ∨ q = 2 ∨ q = 3 := by omega
  clear lx ly
  rcases h2 with rfl | rfl | rfl | rfl <;> rcases h3 with rfl | rfl | rfl | rfl <;> revert ht <;> decide
theorem r_blt2 (hN : 170000 ≤ N) (H : rA s n f m [x, y]) (hE : LayN (s.2.2.1 47) (Rf f) 154240 (nR [])) (hb : b = 3 ∨ 19 ≤ b ∧ b < 28) (hs : suB b 0 (kn x) (kn x) = true) (ht : suB b 1 (kn y) (kn x) = true) : ∃ s', mf_328_66 N (Int32.ofNat b) (Int32.ofNat n) s = some (s', none) ∧ rE s s' n f m (ansB2 b x y) := by
  have H' := H
  obtain ⟨-, H2, H3, H4, H5, H6, H7, H8, H9, H10⟩ := H'
  have hx : rvl (s.2.2.1 47) f (s.2.2.1 49 n) (s.2.2.1 50 n) x := H.g.2.1 0 (Nat.succ_pos _)
  have hy : rvl (s.2.2.1 47) f (s.2.2.1 49 (n + 1)) (s.2.2.1 50 (n + 1)) y := H.g.2.1 1 (Nat.lt_succ_self 1)
  have wx := H9 x List.mem_cons_self
  have dx := H10 x List.mem_cons_self
  have wy := H9 y (List.mem_cons_of_mem _ List.mem_cons_self)
  have dy := H10 y (List.mem_cons_of_mem _ List.mem_cons_self)
  have lx := kn_le (x := x)
  have ly := kn_le (x := y)
  have h1 : b = 3 ∨ b = 19 ∨ b = 20 ∨ b = 21 ∨ b = 22 ∨ b = 23 ∨ b = 24 ∨ b = 25 ∨ b = 26 ∨ b = 27 := by omega
  have e0 : kn x = 0 → s.2.2.1 50 n = ivN x := fun h => (hx.iv h).2
  have th : ¬ kn x = 0 → ∃ a : Nat, s.2.2.1 50 n = Int32.ofNat a ∧ LayN (s.2.2.1 47) (Rf f) a x := fun h => (hx.th h).2
  have e0' : kn y = 0 → s.2.2.1 50 (n + 1) = ivN y := fun h => (hy.iv h).2
  have th' : ¬ kn y = 0 → ∃ a : Nat, s.2.2.1 50 (n + 1) = Int32.ofNat a ∧ LayN (s.2.2.1 47) (Rf f) a y := fun h => (hy.th h).2
  have to : ∀ {b : Nat} {r : Ans}, 19 ≤ b ∧ b < 28 → (∃ s', mf_347 N (Int32.ofNat b) (s.2.2.1 50 n) (s.2.2.1 50 (n + 1)) (Int32.ofNat n) s = some (s', none) ∧ rE s s' n f m r) → ∃ s', mf_328_66 N (Int32.ofNat b) (Int32.ofNat n) s = some (s', none) ∧ rE s s' n f m r := fun hb ⟨s', p, q⟩ => ⟨s', r_to347 H8 hb p, q⟩
  rcases h1 with rfl | rfl | rfl | rfl | rfl | rfl | rfl | rfl | rfl | rfl
  · have k : kn x = 0 := by simpa [suB] using hs
    have l : kn y = 0 := by simpa [suB] using ht
    obtain ⟨s', p, q⟩ := r_mk3 (N := N) (xv := ivN x) (yv := ivN y) hN H
    rw [← e0 k, ← e0' l] at p
    exact ⟨s', r_to330 H8 (by omega) p, q⟩
  · have hok : ¬ (jkN x y = 2 ∧ (kn x = 0 ∨ kn y = 0)) := by
      exact jk_su lx ly ht
    obtain ⟨s', p, q⟩ := r_join (N := N) hN H hok
    refine to (by omega) ⟨s', ?_, q⟩
    rw [r_347_19]
    unfold mf_347_48 mf_347_56
    rw [p]
    rfl
  · have k : kn x = 0 := by simpa [suB] using hs
    have l : 0 < kn y := by simpa [suB] using ht
    obtain ⟨a, e, La⟩ := th' (by omega)
    obtain ⟨s', p, q⟩ := r_tke (N := N) (z := ivN x) hN H La hE (by omega) wy dy
    refine to (by omega) ⟨s', ?_, q⟩
    rw [r_347_20, e0 k, e]
    unfold mf_347_57 mf_347_66
    rw [p]
    rfl
  · have k : kn x = 0 := by simpa [suB] using hs
    have l : 0 < kn y := by simpa [suB] using ht
    obtain ⟨a, e, La⟩ := th' (by omega)
    obtain ⟨s', p, q⟩ := r_drop (N := N) (z := ivN x) hN H La (by omega) wy dy
    refine to (by omega) ⟨s', ?_, q⟩
    rw [r_347_21, e0 k, e]
    unfold mf_347_57 mf_347_66
    rw [p]
    rfl
  · have k : kn x = 1 := by simpa [suB] using hs
    have l : kn y = 1 := by simpa [suB] using ht
    obtain ⟨a, e, La⟩ := th (by omega)
    obtain ⟨a', e', La'⟩ := th' (by omega)
    obtain ⟨s', p, q⟩ := r_cut (N := N) hN H (lay1 La k) (lay1 La' l) (rv_wf k wx) (rv_wf l wy)
    refine to (by omega) ⟨s', ?_, q⟩
    rw [r_347_22, e, e']
    unfold mf_347_67 mf_347_75
    rw [p]
    rfl
  · have k : 0 < kn x := by simpa [suB] using hs
    have l : kn y = 1 := by simpa [suB] using ht
    obtain ⟨a, e, La⟩ := th (by omega)
    obtain ⟨a', e', La'⟩ := th' (by omega)
    obtain ⟨s', p, q⟩ := r_pick (N := N) hN H La (lay1 La' l) (by omega) wx dx (rv_wf l wy)
    refine to (by omega) ⟨s', ?_, q⟩
    rw [r_347_23, e, e']
    unfold mf_347_76 mf_347_84
    rw [p]
    rfl
  · have k : kn x = 1 := by simpa [suB] using hs
    have l : kn y < 2 := by simpa [suB] using ht
    obtain ⟨a, e, La⟩ := th (by omega)
    obtain ⟨s', p, q⟩ := r_find (N := N) hN H (lay1 La k) hy rfl (rv_wf k wx) wy (by omega)
    refine to (by omega) ⟨s', ?_, q⟩
    rw [r_347_24, e]
    exact p
  · have k : kn x = 2 := by simpa [suB] using hs
    have l : kn y = 0 := by simpa [suB] using ht
    obtain ⟨a, e, La⟩ := th (by omega)
    obtain ⟨s', p, q⟩ := r_pad (N := N) (z := ivN y) hN H La k wx
    refine to (by omega) ⟨s', ?_, q⟩
    rw [r_347_25, e, e0' l]
    unfold mf_347_168 mf_347_176
    rw [p]
    rfl
  · have k : kn x = 1 := by simpa [suB] using hs
    have l : kn y = 1 := by simpa [suB] using ht
    obtain ⟨a, e, La⟩ := th (by omega)
    obtain ⟨a', e', La'⟩ := th' (by omega)
    obtain ⟨s', p, q⟩ := r_out (N := N) hN H (lay1 La k) (lay1 La' l) (rv_wf k wx) (rv_wf l wy)
    refine to (by omega) ⟨s', ?_, q⟩
    rw [r_347_26, e, e']
    unfold mf_347_177 mf_347_185
    rw [p]
    rfl
  · obtain ⟨s', p, q⟩ := r_same (N := N) hN H hx hy wx wy dx dy
    refine to (by omega) ⟨s', ?_, q⟩
    rw [r_347_27]
    exact p
end RB2
end
-- ### 97r.pure.lean.txt
section
/-! ===== PURE: run (71): the built-ins of one value and of two (the class) ===== -/
section CB1
variable {N : Nat} {X : Nat → Option zz_C} {t : cS} {u w b : Nat} {vx vy : Int64} {x y : Nod}
/-- which number the class's switch has for built-in b -/
def swb (b : Nat) : Nat := if b = 3 then 25 else if b < 3 then 8 + b else if b = 4 then 11 else if b < 19 then 6 + b else 7 + b
/-- what is asked of the outside: the words' numbers -/
def oW (X : Nat → Option zz_C) : Prop := ∀ b, b < 28 → ¬ b = 5 → hcl X [] (wrdV b) 20 = true ∧ hgi X [] (wrdV b) 20 3 = some (Int32.ofNat (11 + b)) ∧ hai X [] (zz_out + 43) (Int32.ofNat (11 + b)) = some (Int32.ofNat (swb b))
theorem wrdV_o : ¬ wrdV b < zz_out := by unfold wrdV; omega
theorem suB_if {c : Bool} {p : Prop} [Decidable p] {r r' : Ans} (h : c = true ↔ p) : (if c = true then r else r') = if p then r else r' := by
  by_cases k : p
  · rw [if_pos k, if_pos (h.2 k)]
  · rw [if_neg k, if_neg (fun e => k (h.1 e))]
theorem c_blt1 (hN : 170000 ≤ N) (hW : oW X) (hh : cHp t u w) (hx : cN (cel t) u vx x) (wx : wfN x) (dx : x.1 ≤ 4) (h60 : (kA t 60).1 = 64) (hu : u ≤ 162000) (hw : w ≤ 1000) (hb : b ≤ 18) (h3 : ¬ b = 3 ∧ ¬ b = 5) : ∃ t' v, cf_88 N X (wrdV b) vx t = some (t', .inl (some (.long v))) ∧ cE t t' u v (if suB b 0 (kn x) (kn x) = true then ansB1 b x else .inl 3) := by
  obtain ⟨W1, W2, W3⟩ := hW b (by omega) h3.2
  have h1 : b = 0 ∨ b = 1 ∨ b = 2 ∨ b = 4 ∨ b = 6 ∨ b = 7 ∨ b = 8 ∨ b = 9 ∨ b = 10 ∨ b = 11 ∨ b = 12 ∨ b = 13 ∨ b = 14 ∨ b = 15 ∨ b = 16 ∨ b = 17 ∨ b = 18 := by omega
  have lx := kn_le (x := x)
  rcases h1 with rfl | rfl | rfl | rfl | rfl | rfl | rfl | rfl | rfl | rfl | rfl | rfl | rfl | rfl | rfl | rfl | rfl
  · obtain ⟨t1, v1, p1, q1⟩ := c_cnt (N := N) (X := X) (st := 0) (k := 1) (most := 64) hN hh hx (by omega) (by omega) hu hw
    have p1 : cf_90 N X vx 0 1 64 t = _ := p1
    refine ⟨t1, v1, ?_, ?_⟩
    · rw [c_one_8 wrdV_o W1 W2 W3]
      unfold cf_88_92 cf_88_101
      rw [p1]
      rfl
    · have e : suB 0 0 (kn x) (kn x) = true ↔ kn x = 0 := by simp [suB]
      rw [suB_if e]
      exact q1
  · obtain ⟨t1, v1, p1, q1⟩ := c_cnt (N := N) (X := X) (st := 1) (k := 1) (most := 64) hN hh hx (by omega) (by omega) hu hw
    have p1 : cf_90 N X vx 1 1 64 t = _ := p1
    refine ⟨t1, v1, ?_, ?_⟩
    · rw [c_one_9 wrdV_o W1 W2 W3]
      unfold cf_88_102 cf_88_111
      rw [p1]
      rfl
    · have e : suB 1 0 (kn x) (kn x) = true ↔ kn x = 0 := by simp [suB]
      rw [suB_if e]
      exact q1
  · obtain ⟨t1, v1, p1, q1⟩ := c_cnt (N := N) (X := X) (st := 0) (k := 3) (most := 20) hN hh hx (by omega) (by omega) hu hw
    have p1 : cf_90 N X vx 0 3 20 t = _ := p1
    refine ⟨t1, v1, ?_, ?_⟩
    · rw [c_one_10 wrdV_o W1 W2 W3]
      unfold cf_88_112 cf_88_121
      rw [p1]
      rfl
    · have e : suB 2 0 (kn x) (kn x) = true ↔ kn x = 0 := by simp [suB]
      rw [suB_if e]
      exact q1
  · obtain ⟨t1, v1, p1, q1⟩ := c_rws (N := N) (X := X) hN hh hx wx hu hw
    refine ⟨t1, v1, ?_, ?_⟩
    · rw [c_one_11 wrdV_o W1 W2 W3]
      unfold cf_88_122 cf_88_127
      rw [p1]
      rfl
    · have e : suB 4 0 (kn x) (kn x) = true ↔ kn x = 1 := by simp [suB]
      rw [suB_if e]
      exact q1
  · obtain ⟨t1, v1, p1, q1⟩ := c_sizW (N := N) (X := X) hh hx wx
    refine ⟨t1, v1, ?_, ?_⟩
    · rw [c_one_12 wrdV_o W1 W2 W3]
      exact p1
    · have e : suB 6 0 (kn x) (kn x) = true ↔ ¬ (kn x = 0) := by simp [suB]; omega
      rw [suB_if e, ite_not]
      exact q1
  · obtain ⟨t1, v1, p1, q1⟩ := c_wid (N := N) (X := X) hN hh hx wx hu hw
    refine ⟨t1, v1, ?_, ?_⟩
    · rw [c_one_13 wrdV_o W1 W2 W3]
      unfold cf_88_155 cf_88_160
      rw [p1]
      rfl
    · have e : suB 7 0 (kn x) (kn x) = true ↔ kn x = 2 := by simp [suB]
      rw [suB_if e]
      exact q1
  · obtain ⟨t1, v1, p1, q1⟩ := c_kndW (N := N) (X := X) hh hx
    refine ⟨t1, v1, ?_, ?_⟩
    · rw [c_one_14 wrdV_o W1 W2 W3]
      exact p1
    · exact q1
  · obtain ⟨t1, v1, p1, q1⟩ := c_dgs (N := N) (X := X) (b := 9) hN (by omega) hh hx wx dx hu hw
    refine ⟨t1, v1, ?_, ?_⟩
    · rw [c_one_15 wrdV_o W1 W2 W3]
      unfold cf_88_170 cf_88_176
      rw [p1]
      rfl
    · have e : suB 9 0 (kn x) (kn x) = true ↔ ¬ (kn x = 3 ∨ (kn x = 0 ∧ 9 > 9)) := by simp [suB]; omega
      rw [suB_if e, ite_not]
      exact q1
  · obtain ⟨t1, v1, p1, q1⟩ := c_dgs (N := N) (X := X) (b := 10) hN (by omega) hh hx wx dx hu hw
    refine ⟨t1, v1, ?_, ?_⟩
    · rw [c_one_16 wrdV_o W1 W2 W3]
      unfold cf_88_170 cf_88_176
      rw [p1]
      rfl
    · have e : suB 10 0 (kn x) (kn x) = true ↔ ¬ (kn x = 3 ∨ (kn x = 0 ∧ 10 > 9)) := by simp [suB]; omega
      rw [suB_if e, ite_not]
      exact q1
  · obtain ⟨t1, v1, p1, q1⟩ := c_dgs (N := N) (X := X) (b := 11) hN (by omega) hh hx wx dx hu hw
    refine ⟨t1, v1, ?_, ?_⟩
    · rw [c_one_17 wrdV_o W1 W2 W3]
      unfold cf_88_170 cf_88_176
      rw [p1]
      rfl
    · have e : suB 11 0 (kn x) (kn x) = true ↔ ¬ (kn x = 3 ∨ (kn x = 0 ∧ 11 > 9)) := by simp [suB]; omega
      rw [suB_if e, ite_not]
      exact q1
  · obtain ⟨t1, v1, p1, q1⟩ := c_chg (N := N) (X := X) (b := 12) hN (by omega) hh hx wx h60 hu hw
    refine ⟨t1, v1, ?_, ?_⟩
    · rw [c_one_18 wrdV_o W1 W2 W3]
      unfold cf_88_177 cf_88_183
      rw [p1]
      rfl
    · have e : suB 12 0 (kn x) (kn x) = true ↔ kn x = 1 ∨ kn x = 2 := by simp [suB]
      rw [suB_if e]
      exact q1
  · obtain ⟨t1, v1, p1, q1⟩ := c_chg (N := N) (X := X) (b := 13) hN (by omega) hh hx wx h60 hu hw
    refine ⟨t1, v1, ?_, ?_⟩
    · rw [c_one_19 wrdV_o W1 W2 W3]
      unfold cf_88_177 cf_88_183
      rw [p1]
      rfl
    · have e : suB 13 0 (kn x) (kn x) = true ↔ kn x = 1 ∨ kn x = 2 := by simp [suB]
      rw [suB_if e]
      exact q1
  · obtain ⟨t1, v1, p1, q1⟩ := c_grd (N := N) (X := X) hN hh hx wx h60 hu hw
    refine ⟨t1, v1, ?_, ?_⟩
    · rw [c_one_20 wrdV_o W1 W2 W3]
      unfold cf_88_184 cf_88_189
      rw [p1]
      rfl
    · have e : suB 14 0 (kn x) (kn x) = true ↔ kn x = 1 := by simp [suB]
      rw [suB_if e]
      exact q1
  · obtain ⟨t1, v1, p1, q1⟩ := c_bck (N := N) (X := X) hN hh hx wx dx hu hw
    refine ⟨t1, v1, ?_, ?_⟩
    · rw [c_one_21 wrdV_o W1 W2 W3]
      unfold cf_88_190 cf_88_195
      rw [p1]
      rfl
    · have e : suB 15 0 (kn x) (kn x) = true ↔ ¬ (kn x = 0) := by simp [suB]; omega
      rw [suB_if e, ite_not]
      exact q1
  · obtain ⟨t1, v1, p1, q1⟩ := c_flt (N := N) (X := X) hN hh hx wx dx hu hw
    refine ⟨t1, v1, ?_, ?_⟩
    · rw [c_one_22 wrdV_o W1 W2 W3]
      unfold cf_88_196 cf_88_201
      rw [p1]
      rfl
    · have e : suB 16 0 (kn x) (kn x) = true ↔ ¬ (kn x < 2) := by simp [suB]; omega
      rw [suB_if e, ite_not]
      exact q1
  · obtain ⟨t1, v1, p1, q1⟩ := c_trn (N := N) (X := X) hN hh hx wx hu hw
    refine ⟨t1, v1, ?_, ?_⟩
    · rw [c_one_23 wrdV_o W1 W2 W3]
      unfold cf_88_202 cf_88_207
      rw [p1]
      rfl
    · have e : suB 17 0 (kn x) (kn x) = true ↔ kn x = 2 := by simp [suB]
      rw [suB_if e]
      exact q1
  · obtain ⟨t1, v1, p1, q1⟩ := c_grp (N := N) (X := X) hN hh hx wx hu hw
    refine ⟨t1, v1, ?_, ?_⟩
    · rw [c_one_24 wrdV_o W1 W2 W3]
      unfold cf_88_208 cf_88_213
      rw [p1]
      rfl
    · have e : suB 18 0 (kn x) (kn x) = true ↔ kn x = 1 := by simp [suB]
      rw [suB_if e]
      exact q1
theorem jk_iff (lx : kn x ≤ 3) (ly : kn y ≤ 3) : (suB 19 0 (kn x) (kn x) && suB 19 1 (kn y) (kn x)) = true ↔ ¬ (jkN x y = 2 ∧ (kn x = 0 ∨ kn y = 0)) := by
  unfold jkN
  generalize kn x = p at *
  generalize kn y = q at *
  have h2 : p = 0 ∨ p = 1 ∨ p = 2 ∨ p = 3 := by omega
  have h3 : q = 0 ∨ q = 1 ∨ q = 2 ∨ q = 3 := by omega
  clear lx ly
  rcases h2 with rfl | rfl | rfl | rfl <;> rcases h3 with rfl | rfl | rfl | rfl <;> decide
theorem c_blt2 (hN : 170000 ≤ N) (hW : oW X) (hh : cHp t u w) (hx : cN (cel t) u vx x) (hy : cN (cel t) u vy y) (wx : wfN x) (dx : x.1 ≤ 4) (wy : wfN y) (dy : y.1 ≤ 4) (hu : u ≤ 162000) (hw : w ≤ 1000) (hb : b = 3 ∨ 19 ≤ b ∧ b < 28) : ∃ t' v, cf_89 N X (wrdV b) vx vy t = some (t', .inl (some (.long v))) ∧ cE t t' u v (if (suB b 0 (kn x) (kn x) && suB b 1 (kn y) (kn x)) = true then ansB2 b x y else .inl 3) := by
  obtain ⟨W1, W2, W3⟩ := hW b (by omega) (by omega)
  have h1 : b = 3 ∨ b = 19 ∨ b = 20 ∨ b = 21 ∨ b = 22 ∨ b = 23 ∨ b = 24 ∨ b = 25 ∨ b = 26 ∨ b = 27 := by omega
  have lx := kn_le (x := x)
  have ly := kn_le (x := y)
  rcases h1 with rfl | rfl | rfl | rfl | rfl | rfl | rfl | rfl | rfl | rfl
  · obtain ⟨t1, v1, p1, q1⟩ := c_grid (N := N) (X := X) hN hh hx hy hu hw
    refine ⟨t1, v1, ?_, ?_⟩
    · rw [c_two_25 wrdV_o W1 W2 W3]
      unfold cf_89_64 cf_89_71
      rw [p1]
      rfl
    · have e : (suB 3 0 (kn x) (kn x) && suB 3 1 (kn y) (kn x)) = true ↔ kn x = 0 ∧ kn y = 0 := by simp [suB]
      rw [suB_if e]
      exact q1
  · obtain ⟨t1, v1, p1, q1⟩ := c_join (N := N) (X := X) hN hh hx hy wx wy dx dy hu hw
    refine ⟨t1, v1, ?_, ?_⟩
    · rw [c_two_26 wrdV_o W1 W2 W3]
      unfold cf_89_72 cf_89_79
      rw [p1]
      rfl
    · have e : (suB 19 0 (kn x) (kn x) && suB 19 1 (kn y) (kn x)) = true ↔ ¬ (jkN x y = 2 ∧ (kn x = 0 ∨ kn y = 0)) := jk_iff lx ly
      rw [suB_if e, ite_not]
      exact q1
  · obtain ⟨t1, v1, p1, q1⟩ := c_tke (N := N) (X := X) hN hh hx hy wy dy hu hw
    refine ⟨t1, v1, ?_, ?_⟩
    · rw [c_two_27 wrdV_o W1 W2 W3]
      unfold cf_89_80 cf_89_87
      rw [p1]
      rfl
    · have e : (suB 20 0 (kn x) (kn x) && suB 20 1 (kn y) (kn x)) = true ↔ kn x = 0 ∧ ¬ kn y = 0 := by simp [suB]; omega
      rw [suB_if e]
      exact q1
  · obtain ⟨t1, v1, p1, q1⟩ := c_drp (N := N) (X := X) hN hh hx hy wy dy hu hw
    refine ⟨t1, v1, ?_, ?_⟩
    · rw [c_two_28 wrdV_o W1 W2 W3]
      unfold cf_89_88 cf_89_95
      rw [p1]
      rfl
    · have e : (suB 21 0 (kn x) (kn x) && suB 21 1 (kn y) (kn x)) = true ↔ kn x = 0 ∧ ¬ kn y = 0 := by simp [suB]; omega
      rw [suB_if e]
      exact q1
  · obtain ⟨t1, v1, p1, q1⟩ := c_cut (N := N) (X := X) hN hh hx hy wx wy hu hw
    refine ⟨t1, v1, ?_, ?_⟩
    · rw [c_two_29 wrdV_o W1 W2 W3]
      unfold cf_89_96 cf_89_103
      rw [p1]
      rfl
    · have e : (suB 22 0 (kn x) (kn x) && suB 22 1 (kn y) (kn x)) = true ↔ kn x = 1 ∧ kn y = 1 := by simp [suB]
      rw [suB_if e]
      exact q1
  · obtain ⟨t1, v1, p1, q1⟩ := c_pick (N := N) (X := X) hN hh hx hy wx wy dx hu hw
    refine ⟨t1, v1, ?_, ?_⟩
    · rw [c_two_30 wrdV_o W1 W2 W3]
      unfold cf_89_104 cf_89_111
      rw [p1]
      rfl
    · have e : (suB 23 0 (kn x) (kn x) && suB 23 1 (kn y) (kn x)) = true ↔ ¬ (kn x = 0 ∨ ¬ kn y = 1) := by simp [suB]; omega
      rw [suB_if e, ite_not]
      exact q1
  · obtain ⟨t1, v1, p1, q1⟩ := c_find (N := N) (X := X) hN hh hx hy wx wy hu hw
    refine ⟨t1, v1, ?_, ?_⟩
    · rw [c_two_31 wrdV_o W1 W2 W3]
      unfold cf_89_112 cf_89_119
      rw [p1]
      rfl
    · have e : (suB 24 0 (kn x) (kn x) && suB 24 1 (kn y) (kn x)) = true ↔ ¬ (¬ kn x = 1 ∨ 1 < kn y) := by simp [suB]; omega
      rw [suB_if e, ite_not]
      exact q1
  · obtain ⟨t1, v1, p1, q1⟩ := c_pad (N := N) (X := X) hN hh hx hy wx hu hw
    refine ⟨t1, v1, ?_, ?_⟩
    · rw [c_two_32 wrdV_o W1 W2 W3]
      unfold cf_89_120 cf_89_127
      rw [p1]
      rfl
    · have e : (suB 25 0 (kn x) (kn x) && suB 25 1 (kn y) (kn x)) = true ↔ kn x = 2 ∧ kn y = 0 := by simp [suB]
      rw [suB_if e]
      exact q1
  · obtain ⟨t1, v1, p1, q1⟩ := c_out (N := N) (X := X) hN hh hx hy wx wy hu hw
    refine ⟨t1, v1, ?_, ?_⟩
    · rw [c_two_33 wrdV_o W1 W2 W3]
      unfold cf_89_128 cf_89_135
      rw [p1]
      rfl
    · have e : (suB 26 0 (kn x) (kn x) && suB 26 1 (kn y) (kn x)) = true ↔ kn x = 1 ∧ kn y = 1 := by simp [suB]
      rw [suB_if e]
      exact q1
  · obtain ⟨t1, v1, p1, q1⟩ := c_samW (N := N) (X := X) hN hh hx hy wx wy dx dy
    refine ⟨t1, v1, ?_, ?_⟩
    · rw [c_two_34 wrdV_o W1 W2 W3]
      exact p1
    · exact q1
end CB1
end
-- ### 97s.pure.lean.txt
section
/-! ===== PURE: run (72): a part in another's stead (the class) ===== -/
section PTC
variable {N : Nat} {X : Nat → Option zz_C} {t t' : cS} {u w : Nat} {vx vy vz : Int64} {x y z : Nod}
/-- may z be a part of x -/
abbrev fitP (x z : Nod) : Prop := kn x = 3 ∨ (¬ kn x = 0 ∧ kn z + 1 = kn x)
/-- x with z at place i -/
def setP (x : Nod) (i : Nat) (z : Nod) : List Nod := (pts x).take i ++ [z] ++ (pts x).drop (i + 1)
def ansPt (x : Nod) (i : Int32) (z : Nod) : Ans := if i < 0 ∨ ¬ i < Int32.ofNat (szN x) then .inl 5 else ansM (kn x) (setP x i.toNatClampNeg z)
def ansPut (x y z : Nod) : Ans := if fitP x z ∧ kn y = 0 then ansPt x (ivN y) z else .inl 3
theorem setP_mem {i : Nat} {p : Nod} (h : p ∈ setP x i z) : p ∈ pts x ∨ p = z := by
  unfold setP at h
  rcases List.mem_append.mp h with h | h
  · rcases List.mem_append.mp h with h | h
    · exact Or.inl (List.mem_of_mem_take h)
    · exact Or.inr (List.mem_singleton.mp h)
  · exact Or.inl (List.mem_of_mem_drop h)
theorem setP_ok {i : Nat} (hf : fitP x z) : mkOk (kn x) (setP x i z) := by
  have lx := kn_le (x := x)
  have h : kn x = 3 ∨ (kn x = 1 ∧ kn z = 0) ∨ (kn x = 2 ∧ kn z = 1) := by
    rcases hf with h | ⟨h1, h2⟩ <;> omega
  rcases h with h | ⟨h1, h2⟩ | ⟨h1, h2⟩
  · exact Or.inr (Or.inr h)
  · refine Or.inl ⟨h1, fun p hp => ?_⟩
    rcases setP_mem hp with q | q
    · exact (pts_kd q).1 h1
    · rw [q, kd_kn, h2]
      rfl
  · refine Or.inr (Or.inl ⟨h1, fun p hp => ?_⟩)
    rcases setP_mem hp with q | q
    · exact (pts_kd q).2 h1
    · rw [q, kd_kn, h2]
      rfl
theorem setP_len {i : Nat} (hi : i < szN x) : (setP x i z).length = szN x := by
  unfold setP
  have := pts_len (x := x)
  rw [List.length_append, List.length_append, List.length_singleton, List.length_take, List.length_drop]
  show min i _ + 1 + _ = _
  omega
theorem c_ptp (hN : 170000 ≤ N) (hh : cHp t u w) (hx : cN (cel t) u vx x) (hy : cN (cel t) u vy y) (hz : cN (cel t) u vz z) (wx : wfN x) (wz : wfN z) (dx : x.1 ≤ 4) (dz : z.1 ≤ 4) (hu : u ≤ 162000) (hw : w ≤ 1000) : ∃ t' v, cf_224 N X vx vy vz t = some (t', .inl (some (.long v))) ∧ cE t t' u v (ansPut x y z) := by
  have kx := c_kn (N := N) (X := X) hx
  have ky := c_kn (N := N) (X := X) hy
  have kz := c_kn (N := N) (X := X) hz
  have lx := kn_le (x := x)
  have ly := kn_le (x := y)
  have lz := kn_le (x := z)
  have b3 := c_rf (N := N) (X := X) (t := t) (k := Int32.ofNat 3)
  have hF : cf_224 N X vx vy vz t = cf_224_34 N X vx vy vz (Int32.ofNat (kn x)) (if fitP x z then 1 else 0) t := by
    have hv : kn x = 0 ∨ kn x = 1 ∨ kn x = 2 ∨ kn x = 3 := by omega
    unfold fitP
    rcases hv with h | h | h | h
    · rw [if_neg (by omega)]
      rw [h] at kx ⊢
      unfold cf_224 cf_224_0 cf_224_4 cf_224_12 cf_224_33
      simp (disch := omega) only [ev_S, ev_C, ↓reduceIte, Nat.reduceEqDiff, Nat.reduceLeDiff, Nat.reduceAdd, Nat.reduceMul, Nat.reduceSub, reduceCtorEq, l32_0, l32_1, l32_2, l32_3, l32_4, l32_5, l32_6, l32_7, l32_8, l32_9, l32_10, l32_11, l32_12, l32_13, l32_14, l32_15, l32_16, l32_17, l32_18, l32_19, l32_20, l32_21, l32_22, l32_23, l32_24, l32_25, l32_26, l32_27, l32_28, l32_29, l32_33, l32_40, l32_41, l32_44, l32_45, l32_59, l32_61, l32_91, l32_93, l32_123, l32_125, kx]
    · rw [h] at kx ⊢
      have sb : Int32.ofNat 1 - Int32.ofNat 1 = Int32.ofNat 0 := by decide
      by_cases c : kn z = 0
      · rw [if_pos (by omega)]
        rw [c] at kz
        unfold cf_224 cf_224_0 cf_224_4 cf_224_12 cf_224_17 cf_224_22 cf_224_29
        simp (disch := omega) only [ev_S, ev_C, ↓reduceIte, Nat.reduceEqDiff, Nat.reduceLeDiff, Nat.reduceAdd, Nat.reduceMul, Nat.reduceSub, reduceCtorEq, l32_0, l32_1, l32_2, l32_3, l32_4, l32_5, l32_6, l32_7, l32_8, l32_9, l32_10, l32_11, l32_12, l32_13, l32_14, l32_15, l32_16, l32_17, l32_18, l32_19, l32_20, l32_21, l32_22, l32_23, l32_24, l32_25, l32_26, l32_27, l32_28, l32_29, l32_33, l32_40, l32_41, l32_44, l32_45, l32_59, l32_61, l32_91, l32_93, l32_123, l32_125, kx, kz, sb]
      · rw [if_neg (by omega)]
        generalize kn z = q at *
        unfold cf_224 cf_224_0 cf_224_4 cf_224_12 cf_224_17 cf_224_22 cf_224_33
        simp (disch := omega) only [ev_S, ev_C, ↓reduceIte, Nat.reduceEqDiff, Nat.reduceLeDiff, Nat.reduceAdd, Nat.reduceMul, Nat.reduceSub, reduceCtorEq, l32_0, l32_1, l32_2, l32_3, l32_4, l32_5, l32_6, l32_7, l32_8, l32_9, l32_10, l32_11, l32_12, l32_13, l32_14, l32_15, l32_16, l32_17, l32_18, l32_19, l32_20, l32_21, l32_22, l32_23, l32_24, l32_25, l32_26, l32_27, l32_28, l32_29, l32_33, l32_40, l32_41, l32_44, l32_45, l32_59, l32_61, l32_91, l32_93, l32_123, l32_125, kx, kz, sb, c]
    · rw [h] at kx ⊢
      have sb : Int32.ofNat 2 - Int32.ofNat 1 = Int32.ofNat 1 := by decide
      by_cases c : kn z = 1
      · rw [if_pos (by omega)]
        rw [c] at kz
        unfold cf_224 cf_224_0 cf_224_4 cf_224_12 cf_224_17 cf_224_22 cf_224_29
        simp (disch := omega) only [ev_S, ev_C, ↓reduceIte, Nat.reduceEqDiff, Nat.reduceLeDiff, Nat.reduceAdd, Nat.reduceMul, Nat.reduceSub, reduceCtorEq, l32_0, l32_1, l32_2, l32_3, l32_4, l32_5, l32_6, l32_7, l32_8, l32_9, l32_10, l32_11, l32_12, l32_13, l32_14, l32_15, l32_16, l32_17, l32_18, l32_19, l32_20, l32_21, l32_22, l32_23, l32_24, l32_25, l32_26, l32_27, l32_28, l32_29, l32_33, l32_40, l32_41, l32_44, l32_45, l32_59, l32_61, l32_91, l32_93, l32_123, l32_125, kx, kz, sb]
      · rw [if_neg (by omega)]
        generalize kn z = q at *
        unfold cf_224 cf_224_0 cf_224_4 cf_224_12 cf_224_17 cf_224_22 cf_224_33
        simp (disch := omega) only [ev_S, ev_C, ↓reduceIte, Nat.reduceEqDiff, Nat.reduceLeDiff, Nat.reduceAdd, Nat.reduceMul, Nat.reduceSub, reduceCtorEq, l32_0, l32_1, l32_2, l32_3, l32_4, l32_5, l32_6, l32_7, l32_8, l32_9, l32_10, l32_11, l32_12, l32_13, l32_14, l32_15, l32_16, l32_17, l32_18, l32_19, l32_20, l32_21, l32_22, l32_23, l32_24, l32_25, l32_26, l32_27, l32_28, l32_29, l32_33, l32_40, l32_41, l32_44, l32_45, l32_59, l32_61, l32_91, l32_93, l32_123, l32_125, kx, kz, sb, c]
    · rw [if_pos (by omega)]
      rw [h] at kx ⊢
      unfold cf_224 cf_224_0 cf_224_4 cf_224_29
      simp (disch := omega) only [ev_S, ev_C, ↓reduceIte, Nat.reduceEqDiff, Nat.reduceLeDiff, Nat.reduceAdd, Nat.reduceMul, Nat.reduceSub, reduceCtorEq, l32_0, l32_1, l32_2, l32_3, l32_4, l32_5, l32_6, l32_7, l32_8, l32_9, l32_10, l32_11, l32_12, l32_13, l32_14, l32_15, l32_16, l32_17, l32_18, l32_19, l32_20, l32_21, l32_22, l32_23, l32_24, l32_25, l32_26, l32_27, l32_28, l32_29, l32_33, l32_40, l32_41, l32_44, l32_45, l32_59, l32_61, l32_91, l32_93, l32_123, l32_125, kx]
  rw [hF]
  clear hF
  unfold ansPut
  by_cases cf : fitP x z
  · rw [if_pos cf]
    by_cases c0 : kn y = 0
    · rw [if_pos ⟨cf, c0⟩]
      have zx := c_sizeN (N := N) (X := X) hh hx
      have ga := c_gathered (N := N) (X := X) hh
      have ey := hy.z c0
      have lo := c_lowOf (N := N) (X := X) (t := t) (k := 0) (a := ivN y)
      rw [← ey] at lo
      rw [c0] at ky
      have s64 := wf64 wx
      have hpl : (pts x).length = szN x := pts_len
      have b5 := c_rf (N := N) (X := X) (t := t) (k := Int32.ofNat 5)
      have E1 : cf_224_34 N X vx vy vz (Int32.ofNat (kn x)) 1 t = cf_224_67 N X vx vz (Int32.ofNat (kn x)) (ivN y) (Int32.ofNat (szN x)) t := by
        generalize kn x = kk at *
        generalize ivN y = iy at *
        generalize szN x = sx at *
        unfold cf_224_34 cf_224_41 cf_224_45 cf_224_53 cf_224_57
        simp (disch := omega) only [ev_S, ev_C, ↓reduceIte, Nat.reduceEqDiff, Nat.reduceLeDiff, Nat.reduceAdd, Nat.reduceMul, Nat.reduceSub, reduceCtorEq, l32_0, l32_1, l32_2, l32_3, l32_4, l32_5, l32_6, l32_7, l32_8, l32_9, l32_10, l32_11, l32_12, l32_13, l32_14, l32_15, l32_16, l32_17, l32_18, l32_19, l32_20, l32_21, l32_22, l32_23, l32_24, l32_25, l32_26, l32_27, l32_28, l32_29, l32_33, l32_40, l32_41, l32_44, l32_45, l32_59, l32_61, l32_91, l32_93, l32_123, l32_125, ky, lo, zx]
      rw [E1]
      unfold ansPt
      by_cases cn : ivN y < 0
      · rw [if_pos (Or.inl cn)]
        refine ⟨t, _, ?_, cE.tr hh⟩
        unfold cf_224_67
        rw [if_pos cn]
        unfold cf_224_81 cf_224_85
        simp (disch := omega) only [ev_S, ev_C, ↓reduceIte, Nat.reduceEqDiff, Nat.reduceLeDiff, Nat.reduceAdd, Nat.reduceMul, Nat.reduceSub, reduceCtorEq, l32_0, l32_1, l32_2, l32_3, l32_4, l32_5, l32_6, l32_7, l32_8, l32_9, l32_10, l32_11, l32_12, l32_13, l32_14, l32_15, l32_16, l32_17, l32_18, l32_19, l32_20, l32_21, l32_22, l32_23, l32_24, l32_25, l32_26, l32_27, l32_28, l32_29, l32_33, l32_40, l32_41, l32_44, l32_45, l32_59, l32_61, l32_91, l32_93, l32_123, l32_125, b5]
      · obtain ⟨i, hi, e⟩ := i32nn cn
        rw [e] at cn ⊢
        by_cases cl : i < szN x
        · have e2 : ¬ (Int32.ofNat i < 0 ∨ ¬ Int32.ofNat i < Int32.ofNat (szN x)) := by
            intro q
            rcases q with q | q
            · exact cn q
            · refine q ?_
              rw [ev_lt (by omega) (by omega)]
              exact cl
          rw [if_neg e2]
          have tni : (Int32.ofNat i).toNatClampNeg = i := clamp_of rfl (by omega)
          rw [tni]
          obtain ⟨t1, a1, a2⟩ := cG.all (N := N) (X := X) (o := 0) (e := i) hN (cG.nil hh) hx wx (Nat.zero_le _) (by omega) (by rw [List.length_nil]; omega)
          rw [List.nil_append, List.drop_zero, Nat.sub_zero] at a2
          have l1 : ((pts x).take i).length ≤ 64 := by rw [List.length_take]; omega
          obtain ⟨t2, b1, b2⟩ := a2.put (N := N) (X := X) (by omega) (a2.up hz)
          have l2 : ((pts x).take i ++ [z]).length ≤ 65 := by rw [List.length_append, List.length_singleton]; omega
          obtain ⟨t3, c1, c2⟩ := cG.all (N := N) (X := X) (o := i + 1) (e := szN x) hN b2 hx wx (by omega) (by omega) (by omega)
          have eL : (pts x).take i ++ [z] ++ ((pts x).drop (i + 1)).take (szN x - (i + 1)) = setP x i z := by
            unfold setP
            congr 1
            exact List.take_of_length_le (by rw [List.length_drop]; omega)
          rw [eL] at c2
          have hl := setP_len (z := z) cl
          obtain ⟨t4, v, d1, d2⟩ := cG.build (N := N) (X := X) (k := kn x) hN c2 (setP_ok cf) (fun p hp => by rcases setP_mem hp with q | q; exact wf_pts wx p q; rw [q]; exact wz) (fun p hp => by rcases setP_mem hp with q | q; exact Nat.le_trans (pts_lv p q) dx; rw [q]; exact dz) (by omega) (by omega) (by omega) (by omega) (by omega)
          refine ⟨t4, v, ?_, d2⟩
          have a1 : cf_124 N X vx (Int32.ofNat 0) (Int32.ofNat i) t = _ := a1
          generalize kn x = kk at *
          generalize szN x = sx at *
          unfold cf_224_67 cf_224_74 cf_224_86 cf_224_93 cf_224_106 cf_224_115 cf_224_129 cf_224_140
          simp (disch := omega) only [ev_S, ev_C, ↓reduceIte, Nat.reduceEqDiff, Nat.reduceLeDiff, Nat.reduceAdd, Nat.reduceMul, Nat.reduceSub, reduceCtorEq, l32_0, l32_1, l32_2, l32_3, l32_4, l32_5, l32_6, l32_7, l32_8, l32_9, l32_10, l32_11, l32_12, l32_13, l32_14, l32_15, l32_16, l32_17, l32_18, l32_19, l32_20, l32_21, l32_22, l32_23, l32_24, l32_25, l32_26, l32_27, l32_28, l32_29, l32_33, l32_40, l32_41, l32_44, l32_45, l32_59, l32_61, l32_91, l32_93, l32_123, l32_125, cl, ga, a1, b1, c1, d1]
        · have e2 : Int32.ofNat i < 0 ∨ ¬ Int32.ofNat i < Int32.ofNat (szN x) := by
            right
            rw [ev_lt (by omega) (by omega)]
            exact cl
          rw [if_pos e2]
          refine ⟨t, _, ?_, cE.tr hh⟩
          generalize szN x = sx at *
          unfold cf_224_67 cf_224_74 cf_224_81 cf_224_85
          simp (disch := omega) only [ev_S, ev_C, ↓reduceIte, Nat.reduceEqDiff, Nat.reduceLeDiff, Nat.reduceAdd, Nat.reduceMul, Nat.reduceSub, reduceCtorEq, l32_0, l32_1, l32_2, l32_3, l32_4, l32_5, l32_6, l32_7, l32_8, l32_9, l32_10, l32_11, l32_12, l32_13, l32_14, l32_15, l32_16, l32_17, l32_18, l32_19, l32_20, l32_21, l32_22, l32_23, l32_24, l32_25, l32_26, l32_27, l32_28, l32_29, l32_33, l32_40, l32_41, l32_44, l32_45, l32_59, l32_61, l32_91, l32_93, l32_123, l32_125, cl, b5]
    · rw [if_neg (fun q => c0 q.2)]
      refine ⟨t, _, ?_, cE.tr hh⟩
      generalize kn y = q at *
      generalize kn x = kk at *
      unfold cf_224_34 cf_224_41 cf_224_45 cf_224_48 cf_224_52
      simp (disch := omega) only [ev_S, ev_C, ↓reduceIte, Nat.reduceEqDiff, Nat.reduceLeDiff, Nat.reduceAdd, Nat.reduceMul, Nat.reduceSub, reduceCtorEq, l32_0, l32_1, l32_2, l32_3, l32_4, l32_5, l32_6, l32_7, l32_8, l32_9, l32_10, l32_11, l32_12, l32_13, l32_14, l32_15, l32_16, l32_17, l32_18, l32_19, l32_20, l32_21, l32_22, l32_23, l32_24, l32_25, l32_26, l32_27, l32_28, l32_29, l32_33, l32_40, l32_41, l32_44, l32_45, l32_59, l32_61, l32_91, l32_93, l32_123, l32_125, ky, c0, b3]
  · rw [if_neg cf, if_neg (fun q => cf q.1)]
    refine ⟨t, _, ?_, cE.tr hh⟩
    unfold cf_224_34 cf_224_48 cf_224_52
    simp (disch := omega) only [ev_S, ev_C, ↓reduceIte, Nat.reduceEqDiff, Nat.reduceLeDiff, Nat.reduceAdd, Nat.reduceMul, Nat.reduceSub, reduceCtorEq, l32_0, l32_1, l32_2, l32_3, l32_4, l32_5, l32_6, l32_7, l32_8, l32_9, l32_10, l32_11, l32_12, l32_13, l32_14, l32_15, l32_16, l32_17, l32_18, l32_19, l32_20, l32_21, l32_22, l32_23, l32_24, l32_25, l32_26, l32_27, l32_28, l32_29, l32_33, l32_40, l32_41, l32_44, l32_45, l32_59, l32_61, l32_91, l32_93, l32_123, l32_125, b3]
end PTC
end
-- ### 97t.pure.lean.txt
section
/-! ===== PURE: run (73): a part in another's stead (the reference): its loops ===== -/
section PTL
variable {N : Nat} {s s1 : mS} {n f f' m a p : Nat} {x z : Nod} {k0 v0 tg kx : Int32}
theorem setP_set (hp : p < szN x) : setP x p z = (pts x).set p z := by
  unfold setP
  rw [List.set_eq_take_append_cons_drop, if_pos (by rw [pts_len]; exact hp), List.append_assoc]
  rfl
theorem rG.pop {xs : List Nod} (H : rG s s1 n f f' xs) : rG s (mI s1 51 (Int32.ofNat n)) n f f' [] := by
  obtain ⟨⟨h1, h2, h3⟩, h4, h5, h6⟩ := H
  exact ⟨⟨rfl, h2, h3⟩, fun i hi => absurd hi (Nat.not_lt_zero _), h5.tr (rG.nil (s := s1) (n := n) h2).2.2.1 h3, h6⟩
theorem r_putL (hN : 170000 ≤ N) (G : rG s s1 n f f' []) (hf : f' ≤ 166300) (La : LayN (s.2.2.1 47) (Rf f) a x) (h64 : szN x ≤ 64) (hn : n + 200 < 9000) (hz : rvl (s1.2.2.1 47) f' k0 v0 z) (hp : p < szN x) : ∃ s2, mf_318_430 N tg (Int32.ofNat n) (Int32.ofNat a) kx (Int32.ofNat p) k0 v0 s1 = mf_318_476 N tg (Int32.ofNat n) kx s2 ∧ rG s s2 n f f' (setP x p z) := by
  have hff := G.1.2.2
  have hl := setP_len (z := z) hp
  have hpl : (pts x).length = szN x := pts_len
  have E1 : mf_318_430 N tg (Int32.ofNat n) (Int32.ofNat a) kx (Int32.ofNat p) k0 v0 s1 = mf_318_L6 N N 0 k0 v0 (Int32.ofNat 0) tg (Int32.ofNat n) (Int32.ofNat a) kx (Int32.ofNat p) s1 := rfl
  rw [E1]
  refine lp (fun F i (c : mS) => mf_318_L6 N F 0 k0 v0 (Int32.ofNat i) tg (Int32.ofNat n) (Int32.ofNat a) kx (Int32.ofNat p) c) (szN x) (fun i c => rG s c n f f' ((setP x p z).take i) ∧ c.2.2.1 47 = s1.2.2.1 47) (fun R => ∃ s2, R = mf_318_476 N tg (Int32.ofNat n) kx s2 ∧ rG s s2 n f f' (setP x p z)) ?_ ?_ (szN x) 0 N s1 (Nat.zero_add _) (by omega) ⟨by rw [List.take_zero]; exact G, rfl⟩
  · intro F i c hi hP _
    obtain ⟨P1, P2⟩ := hP
    left
    have hit : i < (setP x p z).length := by omega
    have ht : (setP x p z).take (i + 1) = (setP x p z).take i ++ [(setP x p z)[i]] := (List.take_append_getElem hit).symm
    have hti : ((setP x p z).take i).length = i := by rw [List.length_take]; show min i _ = i; omega
    have hsz := rG.size (N := N) P1 La (by omega)
    have hge : (setP x p z)[i] = if p = i then z else (pts x)[i]'(by omega) := by
      have : (setP x p z)[i]? = ((pts x).set p z)[i]? := by rw [setP_set hp]
      rw [List.getElem?_eq_getElem hit, List.getElem?_eq_getElem (by rw [List.length_set]; omega), List.getElem_set] at this
      exact Option.some.inj this
    rw [ht, hge]
    by_cases c0 : p = i
    · rw [if_pos c0]
      have pu := rG.push (N := N) P1 (by rw [hti]; omega) (k := k0) (v := v0) (x := z) (by rw [P2]; exact hz)
      rw [hti] at pu
      refine ⟨_, ⟨pu.2, P2⟩, ?_⟩
      have pu1 := pu.1
      show mf_318_433 N (mf_318_L6 N F) tg (Int32.ofNat n) (Int32.ofNat a) kx (Int32.ofNat p) k0 v0 (Int32.ofNat i) c = mf_318_L6 N F 0 k0 v0 (Int32.ofNat (i + 1)) tg (Int32.ofNat n) (Int32.ofNat a) kx (Int32.ofNat p) _
      clear hge hit hti ht pu E1 hl hpl
      generalize szN x = sx at *
      subst c0
      unfold mf_318_433 mf_318_441 mf_318_444 mf_318_451 mf_318_459 mf_318_470
      simp (disch := omega) only [ev_S, ev_P, ↓reduceIte, Nat.reduceEqDiff, Nat.reduceLeDiff, Nat.reduceAdd, Nat.reduceMul, Nat.reduceSub, reduceCtorEq, l32_0, l32_1, l32_2, l32_3, l32_4, l32_5, l32_6, l32_7, l32_8, l32_9, l32_10, l32_11, l32_12, l32_13, l32_14, l32_15, l32_16, l32_17, l32_18, l32_19, l32_20, l32_21, l32_22, l32_23, l32_24, l32_25, l32_26, l32_27, l32_28, l32_29, l32_33, l32_40, l32_41, l32_44, l32_45, l32_59, l32_61, l32_91, l32_93, l32_123, l32_125, hsz, pu1]
    · rw [if_neg c0]
      obtain ⟨k1, v1, e1, e2⟩ := r_elem (N := N) (s := c) (f := f) (i := i) (n := n + i) (P1.lay La) (by omega) (by omega) (by have := P1.1.1; rw [hti] at this; exact this) (by omega)
      have pu := rG.push (N := N) P1 (by rw [hti]; omega) (k := k1) (v := v1) (x := (pts x)[i]'(by omega)) (e2.up hff (fun _ _ => rfl))
      rw [hti] at pu
      refine ⟨_, ⟨pu.2, P2⟩, ?_⟩
      show mf_318_433 N (mf_318_L6 N F) tg (Int32.ofNat n) (Int32.ofNat a) kx (Int32.ofNat p) k0 v0 (Int32.ofNat i) c = mf_318_L6 N F 0 k0 v0 (Int32.ofNat (i + 1)) tg (Int32.ofNat n) (Int32.ofNat a) kx (Int32.ofNat p) _
      clear hge hit hti ht pu E1 hl e2
      have c1 : ¬ i = p := fun q => c0 q.symm
      clear hpl
      generalize szN x = sx at *
      unfold mf_318_433 mf_318_441 mf_318_444 mf_318_462 mf_318_470
      simp (disch := omega) only [ev_S, ev_P, ↓reduceIte, Nat.reduceEqDiff, Nat.reduceLeDiff, Nat.reduceAdd, Nat.reduceMul, Nat.reduceSub, reduceCtorEq, l32_0, l32_1, l32_2, l32_3, l32_4, l32_5, l32_6, l32_7, l32_8, l32_9, l32_10, l32_11, l32_12, l32_13, l32_14, l32_15, l32_16, l32_17, l32_18, l32_19, l32_20, l32_21, l32_22, l32_23, l32_24, l32_25, l32_26, l32_27, l32_28, l32_29, l32_33, l32_40, l32_41, l32_44, l32_45, l32_59, l32_61, l32_91, l32_93, l32_123, l32_125, hsz, e1, c1]
  · intro F c hP
    obtain ⟨P1, P2⟩ := hP
    have hsz := rG.size (N := N) P1 La (by omega)
    refine ⟨c, ?_, ?_⟩
    · show mf_318_433 N (mf_318_L6 N F) tg (Int32.ofNat n) (Int32.ofNat a) kx (Int32.ofNat p) k0 v0 (Int32.ofNat (szN x)) c = _
      clear hl hpl P1
      generalize szN x = sx at *
      unfold mf_318_433 mf_318_441
      simp (disch := omega) only [ev_S, ev_P, ↓reduceIte, Nat.reduceEqDiff, Nat.reduceLeDiff, Nat.reduceAdd, Nat.reduceMul, Nat.reduceSub, reduceCtorEq, l32_0, l32_1, l32_2, l32_3, l32_4, l32_5, l32_6, l32_7, l32_8, l32_9, l32_10, l32_11, l32_12, l32_13, l32_14, l32_15, l32_16, l32_17, l32_18, l32_19, l32_20, l32_21, l32_22, l32_23, l32_24, l32_25, l32_26, l32_27, l32_28, l32_29, l32_33, l32_40, l32_41, l32_44, l32_45, l32_59, l32_61, l32_91, l32_93, l32_123, l32_125, hsz]
    · rw [List.take_of_length_le (by omega)] at P1
      exact P1
/-- the row of a table with one number changed -/
theorem r_putR {q : Nat} {r : List Int32} {vz : Int32} (hN : 170000 ≤ N) (G : rG s s1 n f f []) (hf : 154240 ≤ f ∧ f + 100 ≤ 166300) (La : LayN (s.2.2.1 47) (Rf f) a (nR r)) (hr : r.length ≤ 64) (hn : n + 200 < 9000) (hq : q < r.length) {ax kp : Int32} : ∃ s2, mf_318_357 N tg (Int32.ofNat n) ax kx kp vz (Int32.ofNat a) (Int32.ofNat q) s1 = mf_318_430 N tg (Int32.ofNat n) ax kx kp (Int32.ofNat 1) (s2.2.2.1 50 n) (mI s2 51 (Int32.ofNat n)) ∧ rG s (mI s2 51 (Int32.ofNat n)) n f (f + 2 + r.length) [] ∧ rvl (s2.2.2.1 47) (f + 2 + r.length) (Int32.ofNat 1) (s2.2.2.1 50 n) (nR (r.set q vz)) := by
  have hl : (r.set q vz).length = r.length := List.length_set
  have E1 : mf_318_357 N tg (Int32.ofNat n) ax kx kp vz (Int32.ofNat a) (Int32.ofNat q) s1 = mf_318_L12 N N 0 vz (Int32.ofNat a) (Int32.ofNat q) (Int32.ofNat 0) tg (Int32.ofNat n) ax kx kp s1 := rfl
  rw [E1]
  refine lp (fun F i (c : mS) => mf_318_L12 N F 0 vz (Int32.ofNat a) (Int32.ofNat q) (Int32.ofNat i) tg (Int32.ofNat n) ax kx kp c) r.length (fun i c => rG s c n f f (((r.set q vz).take i).map nZ)) (fun R => ∃ s2, R = mf_318_430 N tg (Int32.ofNat n) ax kx kp (Int32.ofNat 1) (s2.2.2.1 50 n) (mI s2 51 (Int32.ofNat n)) ∧ rG s (mI s2 51 (Int32.ofNat n)) n f (f + 2 + r.length) [] ∧ rvl (s2.2.2.1 47) (f + 2 + r.length) (Int32.ofNat 1) (s2.2.2.1 50 n) (nR (r.set q vz))) ?_ ?_ r.length 0 N s1 (Nat.zero_add _) (by omega) G
  · intro F i c hi P1 _
    left
    have hit : i < (r.set q vz).length := by omega
    have ht : (r.set q vz).take (i + 1) = (r.set q vz).take i ++ [(r.set q vz)[i]] := (List.take_append_getElem hit).symm
    have hti : (((r.set q vz).take i).map nZ).length = i := by rw [List.length_map, List.length_take]; show min i _ = i; omega
    have hsz : mf_77 N (Int32.ofNat a) c = some (c, some (.int (Int32.ofNat r.length))) := rG.size (N := N) P1 La (by omega)
    have hce := rG.cell P1 La hi
    rw [ht, List.map_append, List.getElem_set]
    obtain ⟨s2, p1, p2⟩ := rG.pushZ (N := N) P1 (by rw [hti]; omega) (if q = i then vz else r[i])
    refine ⟨s2, p2, ?_⟩
    show mf_318_360 N (mf_318_L12 N F) tg (Int32.ofNat n) ax kx kp vz (Int32.ofNat a) (Int32.ofNat q) (Int32.ofNat i) c = mf_318_L12 N F 0 vz (Int32.ofNat a) (Int32.ofNat q) (Int32.ofNat (i + 1)) tg (Int32.ofNat n) ax kx kp s2
    have ha := (LayN.lt La).1
    have ha : a + (2 + r.length) ≤ f := ha
    by_cases c0 : q = i
    · rw [if_pos c0] at p1
      clear hit hti ht p2 hce E1 hl
      subst c0
      generalize r.length = sx at *
      unfold mf_318_360 mf_318_368 mf_318_371 mf_318_380 mf_318_397 mf_318_400
      simp (disch := omega) only [ev_S, ev_P, ↓reduceIte, Nat.reduceEqDiff, Nat.reduceLeDiff, Nat.reduceAdd, Nat.reduceMul, Nat.reduceSub, reduceCtorEq, l32_0, l32_1, l32_2, l32_3, l32_4, l32_5, l32_6, l32_7, l32_8, l32_9, l32_10, l32_11, l32_12, l32_13, l32_14, l32_15, l32_16, l32_17, l32_18, l32_19, l32_20, l32_21, l32_22, l32_23, l32_24, l32_25, l32_26, l32_27, l32_28, l32_29, l32_33, l32_40, l32_41, l32_44, l32_45, l32_59, l32_61, l32_91, l32_93, l32_123, l32_125, hsz, p1]
    · rw [if_neg c0] at p1
      have c1 : ¬ i = q := fun z => c0 z.symm
      generalize r[i] = ri at *
      clear hit hti ht p2 E1 hl
      generalize r.length = sx at *
      unfold mf_318_360 mf_318_368 mf_318_371 mf_318_385 mf_318_397 mf_318_400
      simp (disch := omega) only [ev_S, ev_P, ↓reduceIte, Nat.reduceEqDiff, Nat.reduceLeDiff, Nat.reduceAdd, Nat.reduceMul, Nat.reduceSub, reduceCtorEq, l32_0, l32_1, l32_2, l32_3, l32_4, l32_5, l32_6, l32_7, l32_8, l32_9, l32_10, l32_11, l32_12, l32_13, l32_14, l32_15, l32_16, l32_17, l32_18, l32_19, l32_20, l32_21, l32_22, l32_23, l32_24, l32_25, l32_26, l32_27, l32_28, l32_29, l32_33, l32_40, l32_41, l32_44, l32_45, l32_59, l32_61, l32_91, l32_93, l32_123, l32_125, hsz, p1, c1, hce, l32_166300]
  · intro F c P1
    have hsz : mf_77 N (Int32.ofNat a) c = some (c, some (.int (Int32.ofNat r.length))) := rG.size (N := N) P1 La (by omega)
    rw [List.take_of_length_le (by omega)] at P1
    obtain ⟨s2, b1, b2⟩ := rG.row (N := N) (s := s) (s' := c) (xs := []) (zs := r.set q vz) hN P1 (by show n + 0 + _ < 9000; omega) (by omega)
    have b1 : mf_306 N (Int32.ofNat n) c = some (s2, none) := b1
    rw [hl] at b2
    have b2 : rG s s2 n f (f + 2 + r.length) [nR (r.set q vz)] := b2
    have hv := b2.2.1 0 (Nat.zero_lt_one)
    have hv : rvl (s2.2.2.1 47) (f + 2 + r.length) (s2.2.2.1 49 n) (s2.2.2.1 50 n) (nR (r.set q vz)) := hv
    have hv1 := (hv.th (by show ¬ (1 : Nat) = 0; omega)).1
    rw [hv1] at hv
    refine ⟨s2, ?_, b2.pop, hv⟩
    show mf_318_360 N (mf_318_L12 N F) tg (Int32.ofNat n) ax kx kp vz (Int32.ofNat a) (Int32.ofNat q) (Int32.ofNat r.length) c = _
    clear P1 hl E1 b2 hv
    generalize r.length = sx at *
    unfold mf_318_360 mf_318_368 mf_318_406 mf_318_412
    simp (disch := omega) only [ev_S, ev_P, ↓reduceIte, Nat.reduceEqDiff, Nat.reduceLeDiff, Nat.reduceAdd, Nat.reduceMul, Nat.reduceSub, reduceCtorEq, l32_0, l32_1, l32_2, l32_3, l32_4, l32_5, l32_6, l32_7, l32_8, l32_9, l32_10, l32_11, l32_12, l32_13, l32_14, l32_15, l32_16, l32_17, l32_18, l32_19, l32_20, l32_21, l32_22, l32_23, l32_24, l32_25, l32_26, l32_27, l32_28, l32_29, l32_33, l32_40, l32_41, l32_44, l32_45, l32_59, l32_61, l32_91, l32_93, l32_123, l32_125, hsz, b1]
end PTL
end
-- ### 97u.pure.lean.txt
section
/-! ===== PURE: run (74): a part in another's stead (the reference) ===== -/
section PTR
variable {N : Nat} {s : mS} {n f m k : Nat} {x y y2 z : Nod} {kx vx tg pl : Int32}
theorem lay_kn {h : Nat → Int32} {R : Nat → Prop} {a : Nat} (H : LayN h R a x) (h0 : ¬ kn x = 0) : h a = Int32.ofNat (kn x) := by
  have z := (LayN_iff.mp H).2
  have h0 : ¬ knV (vw x) = 0 := h0
  show h a = Int32.ofNat (knV (vw x))
  revert z h0
  generalize vw x = V
  intro z h0
  obtain q | r | q | l := V
  · exact absurd rfl h0
  · exact z.1
  · exact z.1
  · exact z.1
/-- how a put ends: with a trouble, or with a THING that is laid by -/
def rPt (N : Nat) (s : mS) (n f m : Nat) (tg : Int32) (r : Ans) (R : mO) : Prop := (∃ q s', r = .inl q ∧ R = some (s', none) ∧ rE s s' n f m (.inl q)) ∨ (∃ w s', r = .inr w ∧ rE s s' n f m (.inr w) ∧ R = if m + ctV (vw w) ≤ 3000 then mf_318_497 N tg (Int32.ofNat n) (mI s' 51 (Int32.ofNat n)) else some (mI s' 51 (Int32.ofNat n), none))
theorem rE.i51 {q : Nat} {s' : mS} {y : Int32} (h : rE s s' n f m (.inl q)) : rE s (mI s' 51 y) n f m (.inl q) := by
  obtain ⟨f', h1, h2, h3, h4⟩ := h
  refine ⟨f', h1, h2, h3.tr ⟨⟨fun q r => ?_, fun _ _ => rfl, fun _ _ => rfl, fun _ _ => rfl⟩, fun _ _ => ⟨rfl, rfl⟩, fun _ _ => rfl⟩ h1, h4⟩
  refine if_neg ?_
  unfold vfI at r
  omega
/-- behind the parts -/
theorem r_put9 {s2 : mS} {xs ys : List Nod} {f' kk : Nat} (hN : 170000 ≤ N) (H : rA s n f m xs) (G : rG s s2 n f f' ys) (hok : mkOk kk ys) (hw : ∀ x ∈ ys, wfN x) (hd : ∀ x ∈ ys, x.1 ≤ 4) (hg : f' ≤ f + grw kk ys) (h300 : f' ≤ f + 300) (hl : ys.length ≤ 3000) (hn : n + ys.length < 9000) : rPt N s n f m tg (ansM kk ys) (mf_318_476 N tg (Int32.ofNat n) (Int32.ofNat kk) s2) := by
  obtain ⟨s3, b1, b2⟩ := rA.builds (N := N) hN H G hok hw hd hg h300 hl hn
  have E : mf_318_476 N tg (Int32.ofNat n) (Int32.ofNat kk) s2 = mf_318_484 N tg (Int32.ofNat n) s3 := by
    unfold mf_318_476
    rw [b1]
    rfl
  rw [E]
  have h66 : s.1 66 = Int32.ofNat 0 := H.2.2.1
  cases hA : ansM kk ys with
  | inl q =>
    rw [hA] at b2
    have b2' := b2
    obtain ⟨f', h1, h2, h3, h4, h5, h6, h7⟩ := b2'
    have q2 : q = 2 := by
      unfold ansM at hA
      split at hA
      · cases hA
      · exact (Sum.inl.inj hA).symm
    refine Or.inl ⟨q, mI s3 51 (Int32.ofNat n), rfl, ?_, b2.i51⟩
    rw [q2] at h6
    unfold mf_318_484 mf_318_510
    simp (disch := omega) only [ev_S, ev_P, ↓reduceIte, Nat.reduceEqDiff, Nat.reduceLeDiff, Nat.reduceAdd, Nat.reduceMul, Nat.reduceSub, reduceCtorEq, l32_0, l32_1, l32_2, l32_3, l32_4, l32_5, l32_6, l32_7, l32_8, l32_9, l32_10, l32_11, l32_12, l32_13, l32_14, l32_15, l32_16, l32_17, l32_18, l32_19, l32_20, l32_21, l32_22, l32_23, l32_24, l32_25, l32_26, l32_27, l32_28, l32_29, l32_33, l32_40, l32_41, l32_44, l32_45, l32_59, l32_61, l32_91, l32_93, l32_123, l32_125, h6]
  | inr w =>
    rw [hA] at b2
    have b2' := b2
    obtain ⟨f', h1, h2, h3, h4, h5, h6, h7, h8⟩ := b2'
    refine Or.inr ⟨w, s3, rfl, b2, ?_⟩
    by_cases c : m + ctV (vw w) ≤ 3000
    · rw [if_pos c] at h8 ⊢
      have h8 := h8.1.trans h66
      unfold mf_318_484
      simp (disch := omega) only [ev_S, ev_P, ↓reduceIte, Nat.reduceEqDiff, Nat.reduceLeDiff, Nat.reduceAdd, Nat.reduceMul, Nat.reduceSub, reduceCtorEq, l32_0, l32_1, l32_2, l32_3, l32_4, l32_5, l32_6, l32_7, l32_8, l32_9, l32_10, l32_11, l32_12, l32_13, l32_14, l32_15, l32_16, l32_17, l32_18, l32_19, l32_20, l32_21, l32_22, l32_23, l32_24, l32_25, l32_26, l32_27, l32_28, l32_29, l32_33, l32_40, l32_41, l32_44, l32_45, l32_59, l32_61, l32_91, l32_93, l32_123, l32_125, h8]
    · rw [if_neg c] at h8 ⊢
      have h8 := h8.1
      unfold mf_318_484 mf_318_510
      simp (disch := omega) only [ev_S, ev_P, ↓reduceIte, Nat.reduceEqDiff, Nat.reduceLeDiff, Nat.reduceAdd, Nat.reduceMul, Nat.reduceSub, reduceCtorEq, l32_0, l32_1, l32_2, l32_3, l32_4, l32_5, l32_6, l32_7, l32_8, l32_9, l32_10, l32_11, l32_12, l32_13, l32_14, l32_15, l32_16, l32_17, l32_18, l32_19, l32_20, l32_21, l32_22, l32_23, l32_24, l32_25, l32_26, l32_27, l32_28, l32_29, l32_33, l32_40, l32_41, l32_44, l32_45, l32_59, l32_61, l32_91, l32_93, l32_123, l32_125, h8]
end PTR
end
-- ### 97v.pure.lean.txt
section
/-! ===== PURE: run (75): a part in another's stead, one index (the reference) ===== -/
section PT1
variable {N : Nat} {s : mS} {n f m k : Nat} {x y y2 z : Nod} {kx vx tg pl : Int32}
theorem r_put1 (hN : 170000 ≤ N) (H : rA s n f m [y, z]) (hx : rvl (s.2.2.1 47) f kx vx x) (wx : wfN x) (dx : x.1 ≤ 4) (h308 : mf_308 N tg (mI s 51 (Int32.ofNat n)) = some (mI s 51 (Int32.ofNat n), some (.int kx))) (h309 : mf_309 N tg (mI s 51 (Int32.ofNat n)) = some (mI s 51 (Int32.ofNat n), some (.int vx))) : rPt N s n f m tg (ansPut x y z) (mf_318_80 N (Int32.ofNat k) (Int32.ofNat 0) tg (Int32.ofNat (n + 1)) (Int32.ofNat n) (mI s 51 (Int32.ofNat n))) := by
  have H' := H
  obtain ⟨⟨h51, hv⟩, H2, H3, H4, H5, H6, H7, H8, H9, H10⟩ := H'
  have hy : rvl (s.2.2.1 47) f (s.2.2.1 49 n) (s.2.2.1 50 n) y := hv 0 (by show 0 < 2; omega)
  have hz : rvl (s.2.2.1 47) f (s.2.2.1 49 (n + 1)) (s.2.2.1 50 (n + 1)) z := hv 1 (by show 1 < 2; omega)
  have wz : wfN z := H9 z (List.mem_cons_of_mem _ List.mem_cons_self)
  have dz : z.1 ≤ 4 := H10 z (List.mem_cons_of_mem _ List.mem_cons_self)
  have lx := kn_le (x := x)
  have ly := kn_le (x := y)
  have lz := kn_le (x := z)
  have s64 := wf64 wx
  have G0 : rG s (mI s 51 (Int32.ofNat n)) n f f [] := rG.nil H2
  obtain ⟨s1, hs1⟩ : ∃ s1, s1 = mI s 51 (Int32.ofNat n) := ⟨_, rfl⟩
  rw [← hs1] at G0 h308 h309 ⊢
  have hs47 : s1.2.2.1 = s.2.2.1 := by rw [hs1]; rfl
  rw [← hs47] at hx hy hz
  have T := fun q => rG.trb (N := N) H G0 (by omega) q
  have kz := r_kindAt (N := N) hz (by omega) (by omega)
  rw [kd_kn] at kz
  -- a trouble that is told
  have F3 : ∀ {fl : Int32} {a' kk' : Int32}, fl = Int32.ofNat 0 → rPt N s n f m tg (.inl 3) (mf_318_236 N (Int32.ofNat k) (Int32.ofNat 0) tg (Int32.ofNat (n + 1)) (Int32.ofNat n) a' kk' fl s1) := fun {fl a' kk'} e => by
    obtain ⟨b1, b2⟩ := T 3
    refine Or.inl ⟨3, _, rfl, ?_, b2⟩
    subst e
    unfold mf_318_236 mf_318_241 mf_318_250
    simp (disch := omega) only [ev_S, ev_P, ↓reduceIte, Nat.reduceEqDiff, Nat.reduceLeDiff, Nat.reduceAdd, Nat.reduceMul, Nat.reduceSub, reduceCtorEq, l32_0, l32_1, l32_2, l32_3, l32_4, l32_5, l32_6, l32_7, l32_8, l32_9, l32_10, l32_11, l32_12, l32_13, l32_14, l32_15, l32_16, l32_17, l32_18, l32_19, l32_20, l32_21, l32_22, l32_23, l32_24, l32_25, l32_26, l32_27, l32_28, l32_29, l32_33, l32_40, l32_41, l32_44, l32_45, l32_59, l32_61, l32_91, l32_93, l32_123, l32_125, b1]
  have F5 : rPt N s n f m tg (.inl 5) (mf_318_276 N s1) := by
    obtain ⟨b1, b2⟩ := T 5
    refine Or.inl ⟨5, _, rfl, ?_, b2⟩
    unfold mf_318_276 mf_318_285
    simp (disch := omega) only [ev_S, ev_P, ↓reduceIte, Nat.reduceEqDiff, Nat.reduceLeDiff, Nat.reduceAdd, Nat.reduceMul, Nat.reduceSub, reduceCtorEq, l32_0, l32_1, l32_2, l32_3, l32_4, l32_5, l32_6, l32_7, l32_8, l32_9, l32_10, l32_11, l32_12, l32_13, l32_14, l32_15, l32_16, l32_17, l32_18, l32_19, l32_20, l32_21, l32_22, l32_23, l32_24, l32_25, l32_26, l32_27, l32_28, l32_29, l32_33, l32_40, l32_41, l32_44, l32_45, l32_59, l32_61, l32_91, l32_93, l32_123, l32_125, b1]
  by_cases c0 : kn x = 0
  · have hf : ¬ (fitP x z ∧ kn y = 0) := fun q => by
      rcases q.1 with r | r <;> omega
    unfold ansPut
    rw [if_neg hf]
    have e1 := (hx.iv c0).1
    have E : mf_318_80 N (Int32.ofNat k) (Int32.ofNat 0) tg (Int32.ofNat (n + 1)) (Int32.ofNat n) s1 = mf_318_236 N (Int32.ofNat k) (Int32.ofNat 0) tg (Int32.ofNat (n + 1)) (Int32.ofNat n) vx (Int32.ofNat 0) (Int32.ofNat 0) s1 := by
      rw [e1] at h308
      unfold mf_318_80 mf_318_85 mf_318_92 mf_318_95 mf_318_106 mf_318_127 mf_318_128 mf_318_177 mf_318_208
      simp (disch := omega) only [ev_S, ev_P, ↓reduceIte, Nat.reduceEqDiff, Nat.reduceLeDiff, Nat.reduceAdd, Nat.reduceMul, Nat.reduceSub, reduceCtorEq, l32_0, l32_1, l32_2, l32_3, l32_4, l32_5, l32_6, l32_7, l32_8, l32_9, l32_10, l32_11, l32_12, l32_13, l32_14, l32_15, l32_16, l32_17, l32_18, l32_19, l32_20, l32_21, l32_22, l32_23, l32_24, l32_25, l32_26, l32_27, l32_28, l32_29, l32_33, l32_40, l32_41, l32_44, l32_45, l32_59, l32_61, l32_91, l32_93, l32_123, l32_125, h308, h309]
    rw [E]
    exact F3 rfl
  · obtain ⟨e1, a, e2, La⟩ := hx.th c0
    have hka := lay_kn La c0
    have hla := LayN.lt La
    rw [e1] at h308
    rw [e2] at h309
    have EA : mf_318_80 N (Int32.ofNat k) (Int32.ofNat 0) tg (Int32.ofNat (n + 1)) (Int32.ofNat n) s1 = mf_318_177 N (Int32.ofNat k) (Int32.ofNat 0) tg (Int32.ofNat (n + 1)) (Int32.ofNat n) (Int32.ofNat a) (Int32.ofNat (kn x)) (if kn y = 0 then Int32.ofNat 1 else Int32.ofNat 0) s1 := by
      have c1 : ¬ kn x ≤ 0 := by omega
      clear kz T F3 F5
      generalize kn x = kk at *
      rcases hy.kz with ⟨q1, q2⟩ | ⟨q1, q2, -⟩
      · rw [if_pos q2]
        unfold mf_318_80 mf_318_85 mf_318_92 mf_318_99 mf_318_106 mf_318_113 mf_318_123 mf_318_128
        simp (disch := omega) only [ev_S, ev_P, ↓reduceIte, Nat.reduceEqDiff, Nat.reduceLeDiff, Nat.reduceAdd, Nat.reduceMul, Nat.reduceSub, reduceCtorEq, l32_0, l32_1, l32_2, l32_3, l32_4, l32_5, l32_6, l32_7, l32_8, l32_9, l32_10, l32_11, l32_12, l32_13, l32_14, l32_15, l32_16, l32_17, l32_18, l32_19, l32_20, l32_21, l32_22, l32_23, l32_24, l32_25, l32_26, l32_27, l32_28, l32_29, l32_33, l32_40, l32_41, l32_44, l32_45, l32_59, l32_61, l32_91, l32_93, l32_123, l32_125, h308, h309, hka, l32_166300, c1, q1]
      · rw [if_neg q2]
        unfold mf_318_80 mf_318_85 mf_318_92 mf_318_99 mf_318_106 mf_318_113 mf_318_127 mf_318_128
        simp (disch := omega) only [ev_S, ev_P, ↓reduceIte, Nat.reduceEqDiff, Nat.reduceLeDiff, Nat.reduceAdd, Nat.reduceMul, Nat.reduceSub, reduceCtorEq, l32_0, l32_1, l32_2, l32_3, l32_4, l32_5, l32_6, l32_7, l32_8, l32_9, l32_10, l32_11, l32_12, l32_13, l32_14, l32_15, l32_16, l32_17, l32_18, l32_19, l32_20, l32_21, l32_22, l32_23, l32_24, l32_25, l32_26, l32_27, l32_28, l32_29, l32_33, l32_40, l32_41, l32_44, l32_45, l32_59, l32_61, l32_91, l32_93, l32_123, l32_125, h308, h309, hka, l32_166300, c1, q1]
    rw [EA]
    have EB : ∀ c : Nat, c = 0 ∨ c = 1 → mf_318_177 N (Int32.ofNat k) (Int32.ofNat 0) tg (Int32.ofNat (n + 1)) (Int32.ofNat n) (Int32.ofNat a) (Int32.ofNat (kn x)) (Int32.ofNat c) s1 = mf_318_236 N (Int32.ofNat k) (Int32.ofNat 0) tg (Int32.ofNat (n + 1)) (Int32.ofNat n) (Int32.ofNat a) (Int32.ofNat (kn x)) (if fitP x z ∧ c = 1 then Int32.ofNat 1 else Int32.ofNat 0) s1 := fun c hc => by
      have hvx : kn x = 1 ∨ kn x = 2 ∨ kn x = 3 := by omega
      rcases hc with hc | hc <;> subst hc
      · rw [if_neg (fun q => by omega)]
        rcases hvx with g | g | g
        · rw [g]
          unfold mf_318_177 mf_318_183 mf_318_202 mf_318_203
          simp (disch := omega) only [ev_S, ev_P, ↓reduceIte, Nat.reduceEqDiff, Nat.reduceLeDiff, Nat.reduceAdd, Nat.reduceMul, Nat.reduceSub, reduceCtorEq, l32_0, l32_1, l32_2, l32_3, l32_4, l32_5, l32_6, l32_7, l32_8, l32_9, l32_10, l32_11, l32_12, l32_13, l32_14, l32_15, l32_16, l32_17, l32_18, l32_19, l32_20, l32_21, l32_22, l32_23, l32_24, l32_25, l32_26, l32_27, l32_28, l32_29, l32_33, l32_40, l32_41, l32_44, l32_45, l32_59, l32_61, l32_91, l32_93, l32_123, l32_125]
        · rw [g]
          unfold mf_318_177 mf_318_208 mf_318_214 mf_318_233 mf_318_234
          simp (disch := omega) only [ev_S, ev_P, ↓reduceIte, Nat.reduceEqDiff, Nat.reduceLeDiff, Nat.reduceAdd, Nat.reduceMul, Nat.reduceSub, reduceCtorEq, l32_0, l32_1, l32_2, l32_3, l32_4, l32_5, l32_6, l32_7, l32_8, l32_9, l32_10, l32_11, l32_12, l32_13, l32_14, l32_15, l32_16, l32_17, l32_18, l32_19, l32_20, l32_21, l32_22, l32_23, l32_24, l32_25, l32_26, l32_27, l32_28, l32_29, l32_33, l32_40, l32_41, l32_44, l32_45, l32_59, l32_61, l32_91, l32_93, l32_123, l32_125]
        · rw [g]
          unfold mf_318_177 mf_318_208
          simp (disch := omega) only [ev_S, ev_P, ↓reduceIte, Nat.reduceEqDiff, Nat.reduceLeDiff, Nat.reduceAdd, Nat.reduceMul, Nat.reduceSub, reduceCtorEq, l32_0, l32_1, l32_2, l32_3, l32_4, l32_5, l32_6, l32_7, l32_8, l32_9, l32_10, l32_11, l32_12, l32_13, l32_14, l32_15, l32_16, l32_17, l32_18, l32_19, l32_20, l32_21, l32_22, l32_23, l32_24, l32_25, l32_26, l32_27, l32_28, l32_29, l32_33, l32_40, l32_41, l32_44, l32_45, l32_59, l32_61, l32_91, l32_93, l32_123, l32_125]
      · rcases hvx with g | g | g
        · rcases hz.kz with ⟨q1, q2⟩ | ⟨q1, q2, -⟩
          · rw [if_pos ⟨by unfold fitP; omega, rfl⟩, g]
            unfold mf_318_177 mf_318_183 mf_318_188 mf_318_198 mf_318_203
            simp (disch := omega) only [ev_S, ev_P, ↓reduceIte, Nat.reduceEqDiff, Nat.reduceLeDiff, Nat.reduceAdd, Nat.reduceMul, Nat.reduceSub, reduceCtorEq, l32_0, l32_1, l32_2, l32_3, l32_4, l32_5, l32_6, l32_7, l32_8, l32_9, l32_10, l32_11, l32_12, l32_13, l32_14, l32_15, l32_16, l32_17, l32_18, l32_19, l32_20, l32_21, l32_22, l32_23, l32_24, l32_25, l32_26, l32_27, l32_28, l32_29, l32_33, l32_40, l32_41, l32_44, l32_45, l32_59, l32_61, l32_91, l32_93, l32_123, l32_125, q1]
          · rw [if_neg (fun q => by unfold fitP at q; omega), g]
            unfold mf_318_177 mf_318_183 mf_318_188 mf_318_202 mf_318_203
            simp (disch := omega) only [ev_S, ev_P, ↓reduceIte, Nat.reduceEqDiff, Nat.reduceLeDiff, Nat.reduceAdd, Nat.reduceMul, Nat.reduceSub, reduceCtorEq, l32_0, l32_1, l32_2, l32_3, l32_4, l32_5, l32_6, l32_7, l32_8, l32_9, l32_10, l32_11, l32_12, l32_13, l32_14, l32_15, l32_16, l32_17, l32_18, l32_19, l32_20, l32_21, l32_22, l32_23, l32_24, l32_25, l32_26, l32_27, l32_28, l32_29, l32_33, l32_40, l32_41, l32_44, l32_45, l32_59, l32_61, l32_91, l32_93, l32_123, l32_125, q1]
        · by_cases q2 : kn z = 1
          · rw [if_pos ⟨by unfold fitP; omega, rfl⟩, g]
            rw [q2] at kz
            unfold mf_318_177 mf_318_208 mf_318_214 mf_318_219 mf_318_225 mf_318_229 mf_318_234
            simp (disch := omega) only [ev_S, ev_P, ↓reduceIte, Nat.reduceEqDiff, Nat.reduceLeDiff, Nat.reduceAdd, Nat.reduceMul, Nat.reduceSub, reduceCtorEq, l32_0, l32_1, l32_2, l32_3, l32_4, l32_5, l32_6, l32_7, l32_8, l32_9, l32_10, l32_11, l32_12, l32_13, l32_14, l32_15, l32_16, l32_17, l32_18, l32_19, l32_20, l32_21, l32_22, l32_23, l32_24, l32_25, l32_26, l32_27, l32_28, l32_29, l32_33, l32_40, l32_41, l32_44, l32_45, l32_59, l32_61, l32_91, l32_93, l32_123, l32_125, kz]
          · rw [if_neg (fun q => by unfold fitP at q; omega), g]
            generalize kn z = kk at *
            unfold mf_318_177 mf_318_208 mf_318_214 mf_318_219 mf_318_225 mf_318_233 mf_318_234
            simp (disch := omega) only [ev_S, ev_P, ↓reduceIte, Nat.reduceEqDiff, Nat.reduceLeDiff, Nat.reduceAdd, Nat.reduceMul, Nat.reduceSub, reduceCtorEq, l32_0, l32_1, l32_2, l32_3, l32_4, l32_5, l32_6, l32_7, l32_8, l32_9, l32_10, l32_11, l32_12, l32_13, l32_14, l32_15, l32_16, l32_17, l32_18, l32_19, l32_20, l32_21, l32_22, l32_23, l32_24, l32_25, l32_26, l32_27, l32_28, l32_29, l32_33, l32_40, l32_41, l32_44, l32_45, l32_59, l32_61, l32_91, l32_93, l32_123, l32_125, kz, q2]
        · rw [if_pos ⟨by unfold fitP; omega, rfl⟩, g]
          unfold mf_318_177 mf_318_208
          simp (disch := omega) only [ev_S, ev_P, ↓reduceIte, Nat.reduceEqDiff, Nat.reduceLeDiff, Nat.reduceAdd, Nat.reduceMul, Nat.reduceSub, reduceCtorEq, l32_0, l32_1, l32_2, l32_3, l32_4, l32_5, l32_6, l32_7, l32_8, l32_9, l32_10, l32_11, l32_12, l32_13, l32_14, l32_15, l32_16, l32_17, l32_18, l32_19, l32_20, l32_21, l32_22, l32_23, l32_24, l32_25, l32_26, l32_27, l32_28, l32_29, l32_33, l32_40, l32_41, l32_44, l32_45, l32_59, l32_61, l32_91, l32_93, l32_123, l32_125]
    unfold ansPut
    by_cases cf : fitP x z ∧ kn y = 0
    · rw [if_pos cf, if_pos cf.2, EB 1 (Or.inr rfl), if_pos ⟨cf.1, rfl⟩]
      have e5 := (hy.iv cf.2).2
      have hsz : mf_77 N (Int32.ofNat a) s1 = some (s1, some (.int (Int32.ofNat (szN x)))) := r_size (N := N) (s := s1) (LayN_iff.mp La).2 (Nat.le_trans (LayN.lt La).1 (by omega))
      unfold ansPt
      by_cases cn : ivN y < 0
      · rw [if_pos (Or.inl cn)]
        have E5 : mf_318_236 N (Int32.ofNat k) (Int32.ofNat 0) tg (Int32.ofNat (n + 1)) (Int32.ofNat n) (Int32.ofNat a) (Int32.ofNat (kn x)) (Int32.ofNat 1) s1 = mf_318_276 N s1 := by
          clear kz EB EA T F3 F5
          generalize kn x = kk at *
          have cn : (ivN y < Int32.ofNat 0) = True := eq_true cn
          unfold mf_318_236 mf_318_251
          simp (disch := omega) only [ev_S, ev_P, ↓reduceIte, Nat.reduceEqDiff, Nat.reduceLeDiff, Nat.reduceAdd, Nat.reduceMul, Nat.reduceSub, reduceCtorEq, l32_0, l32_1, l32_2, l32_3, l32_4, l32_5, l32_6, l32_7, l32_8, l32_9, l32_10, l32_11, l32_12, l32_13, l32_14, l32_15, l32_16, l32_17, l32_18, l32_19, l32_20, l32_21, l32_22, l32_23, l32_24, l32_25, l32_26, l32_27, l32_28, l32_29, l32_33, l32_40, l32_41, l32_44, l32_45, l32_59, l32_61, l32_91, l32_93, l32_123, l32_125, e5, cn]
        rw [E5]
        exact F5
      · obtain ⟨i, hi, e⟩ := i32nn cn
        rw [e] at cn e5 ⊢
        by_cases cl : i < szN x
        · have g2 : ¬ (Int32.ofNat i < 0 ∨ ¬ Int32.ofNat i < Int32.ofNat (szN x)) := by
            intro q
            rcases q with q | q
            · exact cn q
            · refine q ?_
              rw [ev_lt (by omega) (by omega)]
              exact cl
          rw [if_neg g2]
          have tni : (Int32.ofNat i).toNatClampNeg = i := clamp_of rfl (by omega)
          rw [tni]
          obtain ⟨s2, p1, p2⟩ := r_putL (N := N) (tg := tg) (kx := Int32.ofNat (kn x)) hN G0 (by omega) (by rw [← hs47]; exact La) s64 H8 hz cl
          have E6 : mf_318_236 N (Int32.ofNat k) (Int32.ofNat 0) tg (Int32.ofNat (n + 1)) (Int32.ofNat n) (Int32.ofNat a) (Int32.ofNat (kn x)) (Int32.ofNat 1) s1 = mf_318_476 N tg (Int32.ofNat n) (Int32.ofNat (kn x)) s2 := by
            clear kz EB EA T F3 F5 p2
            generalize kn x = kk at *
            generalize szN x = sx at *
            unfold mf_318_236 mf_318_251 mf_318_265 mf_318_273 mf_318_286
            simp (disch := omega) only [ev_S, ev_P, ↓reduceIte, Nat.reduceEqDiff, Nat.reduceLeDiff, Nat.reduceAdd, Nat.reduceMul, Nat.reduceSub, reduceCtorEq, l32_0, l32_1, l32_2, l32_3, l32_4, l32_5, l32_6, l32_7, l32_8, l32_9, l32_10, l32_11, l32_12, l32_13, l32_14, l32_15, l32_16, l32_17, l32_18, l32_19, l32_20, l32_21, l32_22, l32_23, l32_24, l32_25, l32_26, l32_27, l32_28, l32_29, l32_33, l32_40, l32_41, l32_44, l32_45, l32_59, l32_61, l32_91, l32_93, l32_123, l32_125, e5, hsz, cl, p1]
          rw [E6]
          exact r_put9 hN H p2 (setP_ok cf.1) (fun p hp => by rcases setP_mem hp with q | q; exact wf_pts wx p q; rw [q]; exact wz) (fun p hp => by rcases setP_mem hp with q | q; exact Nat.le_trans (pts_lv p q) dx; rw [q]; exact dz) (by omega) (by omega) (by rw [setP_len cl]; omega) (by rw [setP_len cl]; omega)
        · have g2 : Int32.ofNat i < 0 ∨ ¬ Int32.ofNat i < Int32.ofNat (szN x) := by
            right
            rw [ev_lt (by omega) (by omega)]
            exact cl
          rw [if_pos g2]
          have E5 : mf_318_236 N (Int32.ofNat k) (Int32.ofNat 0) tg (Int32.ofNat (n + 1)) (Int32.ofNat n) (Int32.ofNat a) (Int32.ofNat (kn x)) (Int32.ofNat 1) s1 = mf_318_276 N s1 := by
            clear kz EB EA T F3 F5
            generalize kn x = kk at *
            generalize szN x = sx at *
            unfold mf_318_236 mf_318_251 mf_318_265 mf_318_273
            simp (disch := omega) only [ev_S, ev_P, ↓reduceIte, Nat.reduceEqDiff, Nat.reduceLeDiff, Nat.reduceAdd, Nat.reduceMul, Nat.reduceSub, reduceCtorEq, l32_0, l32_1, l32_2, l32_3, l32_4, l32_5, l32_6, l32_7, l32_8, l32_9, l32_10, l32_11, l32_12, l32_13, l32_14, l32_15, l32_16, l32_17, l32_18, l32_19, l32_20, l32_21, l32_22, l32_23, l32_24, l32_25, l32_26, l32_27, l32_28, l32_29, l32_33, l32_40, l32_41, l32_44, l32_45, l32_59, l32_61, l32_91, l32_93, l32_123, l32_125, e5, hsz, cl]
          rw [E5]
          exact F5
    · rw [if_neg cf]
      by_cases cy : kn y = 0
      · rw [if_pos cy, EB 1 (Or.inr rfl), if_neg (fun q => cf ⟨q.1, cy⟩)]
        exact F3 rfl
      · rw [if_neg cy, EB 0 (Or.inl rfl), if_neg (fun q => by omega)]
        exact F3 rfl
end PT1
end
-- ### 97w.pure.lean.txt
section
/-! ===== PURE: run (76): a number in a row of a table (the class) ===== -/
/-- the end of an operation in the class, with more room -/
def cF (t t' : cS) (u : Nat) (v : Int64) (r : Ans) : Prop := ∃ u' w', cHp t' u' w' ∧ hfw t t' ∧ u ≤ u' ∧ (∀ y, y < u → cel t' y = cel t y) ∧ match r with
  | .inl k => v = rf (Int32.ofNat k) ∧ u' ≤ u + 2100
  | .inr x => cN (cel t') u' v x ∧ u' ≤ u + 20 * ctV (vw x) ∧ wfN x ∧ x.1 ≤ 4
section CEL
variable {N : Nat} {X : Nat → Option zz_C} {t t' t0 : cS} {u u' w w' i j : Nat} {vx vy vz vi vj v : Int64} {x y z yi yj : Nod} {r : List Int32} {a : Ans}
theorem cE.F (h : cE t t' u v a) : cF t t' u v a := by
  obtain ⟨u', w', h1, h2, h3, h4, h5⟩ := h
  refine ⟨u', w', h1, h2, h3, h4, ?_⟩
  cases a with
  | inl k => exact ⟨h5.1, by have := h5.2; omega⟩
  | inr x => exact ⟨h5.1, by have := h5.2.1; omega, h5.2.2⟩
theorem ctV4 (h : ¬ kn x = 0) : 4 ≤ ctV (vw x) := by
  have h : ¬ knV (vw x) = 0 := h
  generalize vw x = V at *
  obtain q | r | q | l := V
  · exact absurd rfl h
  · exact Nat.le_add_right _ _
  · exact Nat.le_add_right _ _
  · exact Nat.le_add_right _ _
theorem cG.F (G : cG t0 t u u' w []) (h : cE t t' u' v a) (hu : u' ≤ u + 70) (ha : ∀ x, a = .inr x → ¬ kn x = 0) : cF t0 t' u v a := by
  obtain ⟨u2, w', h1, h2, h3, h4, h5⟩ := h
  refine ⟨u2, w', h1, hfw.tr G.2.1 h2, Nat.le_trans G.2.2.1 h3, fun y hy => (h4 y (Nat.lt_of_lt_of_le hy G.2.2.1)).trans (G.2.2.2.1 y hy), ?_⟩
  cases a with
  | inl k => exact ⟨h5.1, by have := h5.2; omega⟩
  | inr x =>
    have := ctV4 (ha x rfl)
    exact ⟨h5.1, by have := h5.2.1; omega, h5.2.2⟩
theorem cN.zz (h : cN (cel t) u v x) (h0 : kn x = 0) : cN (cel t) u v (nZ (ivN x)) := by
  rw [h.z h0]
  exact cN_Z
theorem c_fitR (hx : cN (cel t) u vx (nR r)) (hy : cN (cel t) u vy y) (hz : cN (cel t) u vz z) (hh : cHp t u w) (cy : kn y = 0) (cz : kn z = 0) : cf_224 N X vx vy vz t = cf_224_67 N X vx vz (Int32.ofNat 1) (ivN y) (Int32.ofNat r.length) t := by
  have kx := c_kn (N := N) (X := X) hx
  have kx : cf_255 N X vx t = some (t, .inl (some (.int (Int32.ofNat 1)))) := kx
  have ky := c_kn (N := N) (X := X) hy
  have kz := c_kn (N := N) (X := X) hz
  rw [cy] at ky
  rw [cz] at kz
  have zx := c_sizeN (N := N) (X := X) hh hx
  have zx : cf_128 N X vx t = some (t, .inl (some (.int (Int32.ofNat r.length)))) := zx
  have ey := hy.z cy
  have lo := c_lowOf (N := N) (X := X) (t := t) (k := 0) (a := ivN y)
  rw [← ey] at lo
  have sb : Int32.ofNat 1 - Int32.ofNat 1 = Int32.ofNat 0 := by decide
  generalize ivN y = iy at *
  generalize r.length = sx at *
  unfold cf_224 cf_224_0 cf_224_4 cf_224_12 cf_224_17 cf_224_22 cf_224_29 cf_224_34 cf_224_41 cf_224_45 cf_224_53 cf_224_57
  simp (disch := omega) only [ev_S, ev_C, ↓reduceIte, Nat.reduceEqDiff, Nat.reduceLeDiff, Nat.reduceAdd, Nat.reduceMul, Nat.reduceSub, reduceCtorEq, l32_0, l32_1, l32_2, l32_3, l32_4, l32_5, l32_6, l32_7, l32_8, l32_9, l32_10, l32_11, l32_12, l32_13, l32_14, l32_15, l32_16, l32_17, l32_18, l32_19, l32_20, l32_21, l32_22, l32_23, l32_24, l32_25, l32_26, l32_27, l32_28, l32_29, l32_33, l32_40, l32_41, l32_44, l32_45, l32_59, l32_61, l32_91, l32_93, l32_123, l32_125, kx, kz, sb, ky, lo, zx]
theorem c_pt5 (hx : cN (cel t) u vx (nR r)) (hy : cN (cel t) u vy y) (hz : cN (cel t) u vz z) (hh : cHp t u w) (cy : kn y = 0) (cz : kn z = 0) (hr : r.length ≤ 64) (ho : ivN y < 0 ∨ ¬ ivN y < Int32.ofNat r.length) : cf_224 N X vx vy vz t = some (t, .inl (some (.long (rf (Int32.ofNat 5))))) := by
  rw [c_fitR hx hy hz hh cy cz]
  have b5 := c_rf (N := N) (X := X) (t := t) (k := Int32.ofNat 5)
  by_cases cn : ivN y < 0
  · unfold cf_224_67
    rw [if_pos cn]
    unfold cf_224_81 cf_224_85
    simp (disch := omega) only [ev_S, ev_C, ↓reduceIte, Nat.reduceEqDiff, Nat.reduceLeDiff, Nat.reduceAdd, Nat.reduceMul, Nat.reduceSub, reduceCtorEq, l32_0, l32_1, l32_2, l32_3, l32_4, l32_5, l32_6, l32_7, l32_8, l32_9, l32_10, l32_11, l32_12, l32_13, l32_14, l32_15, l32_16, l32_17, l32_18, l32_19, l32_20, l32_21, l32_22, l32_23, l32_24, l32_25, l32_26, l32_27, l32_28, l32_29, l32_33, l32_40, l32_41, l32_44, l32_45, l32_59, l32_61, l32_91, l32_93, l32_123, l32_125, b5]
  · have cl : ¬ ivN y < Int32.ofNat r.length := ho.resolve_left cn
    unfold cf_224_67
    rw [if_neg cn]
    unfold cf_224_74
    rw [if_neg cl]
    unfold cf_224_81 cf_224_85
    simp (disch := omega) only [ev_S, ev_C, ↓reduceIte, Nat.reduceEqDiff, Nat.reduceLeDiff, Nat.reduceAdd, Nat.reduceMul, Nat.reduceSub, reduceCtorEq, l32_0, l32_1, l32_2, l32_3, l32_4, l32_5, l32_6, l32_7, l32_8, l32_9, l32_10, l32_11, l32_12, l32_13, l32_14, l32_15, l32_16, l32_17, l32_18, l32_19, l32_20, l32_21, l32_22, l32_23, l32_24, l32_25, l32_26, l32_27, l32_28, l32_29, l32_33, l32_40, l32_41, l32_44, l32_45, l32_59, l32_61, l32_91, l32_93, l32_123, l32_125, b5]
/-- the row with one number changed -/
theorem c_ptr (hN : 170000 ≤ N) (hx : cN (cel t) u vx (nR r)) (hy : cN (cel t) u vy y) (hz : cN (cel t) u vz z) (hh : cHp t u w) (cy : kn y = 0) (cz : kn z = 0) (hr : r.length ≤ 64) (hj : ivN y = Int32.ofNat j) (hl : j < r.length) (hu : u ≤ 162000) (hw : w ≤ 1000) : ∃ t2 v, cf_224 N X vx vy vz t = some (t2, .inl (some (.long v))) ∧ cG t t2 u (u + 1 + r.length) w [] ∧ cN (cel t2) (u + 1 + r.length) v (nR (r.set j (ivN z))) := by
  rw [c_fitR hx hy hz hh cy cz, hj]
  have hp : pts (nR r) = r.map nZ := rfl
  have ga := c_gathered (N := N) (X := X) hh
  obtain ⟨t1, a1, a2⟩ := cG.all (N := N) (X := X) (o := 0) (e := j) hN (cG.nil hh) hx hr (Nat.zero_le _) (by rw [hp, List.length_map]; omega) (by rw [List.length_nil]; omega)
  rw [List.nil_append, List.drop_zero, Nat.sub_zero, hp, ← List.map_take] at a2
  have l1 : ((r.take j).map nZ).length ≤ 64 := by rw [List.length_map, List.length_take]; omega
  obtain ⟨t2, b1, b2⟩ := a2.put (N := N) (X := X) (by omega) (a2.up (hz.zz cz))
  have l2 : ((r.take j).map nZ ++ [nZ (ivN z)]).length ≤ 65 := by rw [List.length_append, List.length_singleton]; omega
  obtain ⟨t3, c1, c2⟩ := cG.all (N := N) (X := X) (o := j + 1) (e := r.length) hN b2 hx hr (by omega) (by rw [hp, List.length_map]; omega) (by omega)
  have eL : (r.take j).map nZ ++ [nZ (ivN z)] ++ ((pts (nR r)).drop (j + 1)).take (r.length - (j + 1)) = (r.set j (ivN z)).map nZ := by
    have e3 : ((r.drop (j + 1)).map nZ).take (r.length - (j + 1)) = (r.drop (j + 1)).map nZ := List.take_of_length_le (by rw [List.length_map, List.length_drop]; omega)
    rw [hp, ← List.map_drop, e3, List.set_eq_take_append_cons_drop, if_pos hl, List.map_append, List.append_assoc]
    rfl
  rw [eL] at c2
  have hls : (r.set j (ivN z)).length = r.length := List.length_set
  obtain ⟨t4, v, d1, d2, d3, d4⟩ := cG.rowV (N := N) (X := X) (xs := []) (zs := r.set j (ivN z)) hN c2 (by omega) (by show w + 0 ≤ 60000; omega) (by omega)
  rw [hls] at d2 d3
  refine ⟨t4, v, ?_, d2, d3⟩
  have d1 : cf_126 N X (Int32.ofNat 1) (Int32.ofNat w) t3 = _ := d1
  have a1 : cf_124 N X vx (Int32.ofNat 0) (Int32.ofNat j) t = _ := a1
  clear l1 l2 eL hls c2 d2 d3
  generalize r.length = sx at *
  unfold cf_224_67 cf_224_74 cf_224_86 cf_224_93 cf_224_106 cf_224_115 cf_224_129 cf_224_140
  simp (disch := omega) only [ev_S, ev_C, ↓reduceIte, Nat.reduceEqDiff, Nat.reduceLeDiff, Nat.reduceAdd, Nat.reduceMul, Nat.reduceSub, reduceCtorEq, l32_0, l32_1, l32_2, l32_3, l32_4, l32_5, l32_6, l32_7, l32_8, l32_9, l32_10, l32_11, l32_12, l32_13, l32_14, l32_15, l32_16, l32_17, l32_18, l32_19, l32_20, l32_21, l32_22, l32_23, l32_24, l32_25, l32_26, l32_27, l32_28, l32_29, l32_33, l32_40, l32_41, l32_44, l32_45, l32_59, l32_61, l32_91, l32_93, l32_123, l32_125, hl, ga, a1, b1, c1, d1]
/-- why a table can't have it -/
def celT (x yi yj z : Nod) : Nat := if kn x = 2 ∧ kn yi = 0 ∧ kn yj = 0 ∧ kn z = 0 then (if ivN yi < 0 ∨ ¬ ivN yi < Int32.ofNat (szN x) then 5 else 0) else 3
theorem c_celT (hh : cHp t u w) (hx : cN (cel t) u vx x) (hi : cN (cel t) u vi yi) (hj : cN (cel t) u vj yj) (hz : cN (cel t) u vz z) : cf_225 N X vx vi vj vz t = some (t, .inl (some (.int (Int32.ofNat (celT x yi yj z))))) := by
  have kx := c_kn (N := N) (X := X) hx
  have ki := c_kn (N := N) (X := X) hi
  have kj := c_kn (N := N) (X := X) hj
  have kz := c_kn (N := N) (X := X) hz
  have lx := kn_le (x := x)
  have li := kn_le (x := yi)
  have lj := kn_le (x := yj)
  have lz := kn_le (x := z)
  unfold celT
  by_cases c : kn x = 2 ∧ kn yi = 0 ∧ kn yj = 0 ∧ kn z = 0
  · rw [if_pos c]
    obtain ⟨c1, c2, c3, c4⟩ := c
    have lo := c_lowOf (N := N) (X := X) (t := t) (k := 0) (a := ivN yi)
    rw [← hi.z c2] at lo
    have zx := c_sizeN (N := N) (X := X) hh hx
    rw [c1] at kx
    rw [c2] at ki
    rw [c3] at kj
    rw [c4] at kz
    by_cases cn : ivN yi < 0
    · rw [if_pos (Or.inl cn)]
      have cn : (ivN yi < Int32.ofNat 0) = True := eq_true cn
      generalize ivN yi = q at *
      unfold cf_225 cf_225_0 cf_225_4 cf_225_8 cf_225_12 cf_225_15 cf_225_20 cf_225_23 cf_225_28 cf_225_33 cf_225_37 cf_225_55 cf_225_60
      simp (disch := omega) only [ev_S, ev_C, ↓reduceIte, Nat.reduceEqDiff, Nat.reduceLeDiff, Nat.reduceAdd, Nat.reduceMul, Nat.reduceSub, reduceCtorEq, l32_0, l32_1, l32_2, l32_3, l32_4, l32_5, l32_6, l32_7, l32_8, l32_9, l32_10, l32_11, l32_12, l32_13, l32_14, l32_15, l32_16, l32_17, l32_18, l32_19, l32_20, l32_21, l32_22, l32_23, l32_24, l32_25, l32_26, l32_27, l32_28, l32_29, l32_33, l32_40, l32_41, l32_44, l32_45, l32_59, l32_61, l32_91, l32_93, l32_123, l32_125, kx, ki, kj, kz, lo, cn]
    · have cn' : (ivN yi < Int32.ofNat 0) = False := eq_false cn
      by_cases cl : ivN yi < Int32.ofNat (szN x)
      · rw [if_neg (fun q => q.elim cn (fun q => q cl))]
        have cl : (ivN yi < Int32.ofNat (szN x)) = True := eq_true cl
        generalize ivN yi = q at *
        generalize szN x = sx at *
        unfold cf_225 cf_225_0 cf_225_4 cf_225_8 cf_225_12 cf_225_15 cf_225_20 cf_225_23 cf_225_28 cf_225_33 cf_225_37 cf_225_40 cf_225_44 cf_225_52 cf_225_59 cf_225_60
        simp (disch := omega) only [ev_S, ev_C, ↓reduceIte, Nat.reduceEqDiff, Nat.reduceLeDiff, Nat.reduceAdd, Nat.reduceMul, Nat.reduceSub, reduceCtorEq, l32_0, l32_1, l32_2, l32_3, l32_4, l32_5, l32_6, l32_7, l32_8, l32_9, l32_10, l32_11, l32_12, l32_13, l32_14, l32_15, l32_16, l32_17, l32_18, l32_19, l32_20, l32_21, l32_22, l32_23, l32_24, l32_25, l32_26, l32_27, l32_28, l32_29, l32_33, l32_40, l32_41, l32_44, l32_45, l32_59, l32_61, l32_91, l32_93, l32_123, l32_125, kx, ki, kj, kz, lo, cn', zx, cl]
      · rw [if_pos (Or.inr cl)]
        have cl : (ivN yi < Int32.ofNat (szN x)) = False := eq_false cl
        generalize ivN yi = q at *
        generalize szN x = sx at *
        unfold cf_225 cf_225_0 cf_225_4 cf_225_8 cf_225_12 cf_225_15 cf_225_20 cf_225_23 cf_225_28 cf_225_33 cf_225_37 cf_225_40 cf_225_44 cf_225_52 cf_225_55 cf_225_60
        simp (disch := omega) only [ev_S, ev_C, ↓reduceIte, Nat.reduceEqDiff, Nat.reduceLeDiff, Nat.reduceAdd, Nat.reduceMul, Nat.reduceSub, reduceCtorEq, l32_0, l32_1, l32_2, l32_3, l32_4, l32_5, l32_6, l32_7, l32_8, l32_9, l32_10, l32_11, l32_12, l32_13, l32_14, l32_15, l32_16, l32_17, l32_18, l32_19, l32_20, l32_21, l32_22, l32_23, l32_24, l32_25, l32_26, l32_27, l32_28, l32_29, l32_33, l32_40, l32_41, l32_44, l32_45, l32_59, l32_61, l32_91, l32_93, l32_123, l32_125, kx, ki, kj, kz, lo, cn', zx, cl]
  · rw [if_neg c]
    generalize kn x = p1 at *
    generalize kn yi = p2 at *
    generalize kn yj = p3 at *
    generalize kn z = p4 at *
    by_cases c1 : p1 = 2
    · by_cases c2 : p2 = 0
      · by_cases c3 : p3 = 0
        · have c4 : ¬ p4 = 0 := fun q => c ⟨c1, c2, c3, q⟩
          clear c
          unfold cf_225 cf_225_0 cf_225_4 cf_225_8 cf_225_12 cf_225_15 cf_225_20 cf_225_23 cf_225_28 cf_225_31
          simp (disch := omega) only [ev_S, ev_C, ↓reduceIte, Nat.reduceEqDiff, Nat.reduceLeDiff, Nat.reduceAdd, Nat.reduceMul, Nat.reduceSub, reduceCtorEq, l32_0, l32_1, l32_2, l32_3, l32_4, l32_5, l32_6, l32_7, l32_8, l32_9, l32_10, l32_11, l32_12, l32_13, l32_14, l32_15, l32_16, l32_17, l32_18, l32_19, l32_20, l32_21, l32_22, l32_23, l32_24, l32_25, l32_26, l32_27, l32_28, l32_29, l32_33, l32_40, l32_41, l32_44, l32_45, l32_59, l32_61, l32_91, l32_93, l32_123, l32_125, kx, ki, kj, kz, c1, c2, c3, c4]
        · clear c
          unfold cf_225 cf_225_0 cf_225_4 cf_225_8 cf_225_12 cf_225_15 cf_225_20 cf_225_31
          simp (disch := omega) only [ev_S, ev_C, ↓reduceIte, Nat.reduceEqDiff, Nat.reduceLeDiff, Nat.reduceAdd, Nat.reduceMul, Nat.reduceSub, reduceCtorEq, l32_0, l32_1, l32_2, l32_3, l32_4, l32_5, l32_6, l32_7, l32_8, l32_9, l32_10, l32_11, l32_12, l32_13, l32_14, l32_15, l32_16, l32_17, l32_18, l32_19, l32_20, l32_21, l32_22, l32_23, l32_24, l32_25, l32_26, l32_27, l32_28, l32_29, l32_33, l32_40, l32_41, l32_44, l32_45, l32_59, l32_61, l32_91, l32_93, l32_123, l32_125, kx, ki, kj, c1, c2, c3]
      · clear c
        unfold cf_225 cf_225_0 cf_225_4 cf_225_8 cf_225_12 cf_225_31
        simp (disch := omega) only [ev_S, ev_C, ↓reduceIte, Nat.reduceEqDiff, Nat.reduceLeDiff, Nat.reduceAdd, Nat.reduceMul, Nat.reduceSub, reduceCtorEq, l32_0, l32_1, l32_2, l32_3, l32_4, l32_5, l32_6, l32_7, l32_8, l32_9, l32_10, l32_11, l32_12, l32_13, l32_14, l32_15, l32_16, l32_17, l32_18, l32_19, l32_20, l32_21, l32_22, l32_23, l32_24, l32_25, l32_26, l32_27, l32_28, l32_29, l32_33, l32_40, l32_41, l32_44, l32_45, l32_59, l32_61, l32_91, l32_93, l32_123, l32_125, kx, ki, c1, c2]
    · clear c
      unfold cf_225 cf_225_0 cf_225_4 cf_225_31
      simp (disch := omega) only [ev_S, ev_C, ↓reduceIte, Nat.reduceEqDiff, Nat.reduceLeDiff, Nat.reduceAdd, Nat.reduceMul, Nat.reduceSub, reduceCtorEq, l32_0, l32_1, l32_2, l32_3, l32_4, l32_5, l32_6, l32_7, l32_8, l32_9, l32_10, l32_11, l32_12, l32_13, l32_14, l32_15, l32_16, l32_17, l32_18, l32_19, l32_20, l32_21, l32_22, l32_23, l32_24, l32_25, l32_26, l32_27, l32_28, l32_29, l32_33, l32_40, l32_41, l32_44, l32_45, l32_59, l32_61, l32_91, l32_93, l32_123, l32_125, kx, c1]
end CEL
end
-- ### 97x.pure.lean.txt
section
/-! ===== PURE: run (77): a number in a row of a table (the reference) ===== -/
section PT2
variable {N : Nat} {s : mS} {n f m k : Nat} {x yi yj z : Nod} {kx vx tg : Int32}
/-- a table with one number changed -/
def setC (x : Nod) (i j : Nat) (v : Int32) : List Nod := setP x i (nR (((tvN x).getD i []).set j v))
theorem setC_grw {i : Nat} {r : Nod} : szN r ≤ ((setP x i r).map szN).sum ∧ 2 + szN r ≤ grw 2 (setP x i r) := by
  have h : grw 2 (setP x i r) = ((setP x i r).map fun x => 2 + szN x).sum := rfl
  rw [h]
  unfold setP
  rw [List.map_append, List.map_append, List.map_append, List.map_append, List.sum_append, List.sum_append, List.sum_append, List.sum_append]
  show _ ≤ _ + (szN r + 0) + _ ∧ _ ≤ _ + (2 + szN r + 0) + _
  omega
/-- how it ends -/
def rPc (N : Nat) (s s1 : mS) (n f m k : Nat) (tg : Int32) (x yi yj z : Nod) (R : mO) : Prop := if celT x yi yj z = 0 then (if ivN yj < 0 ∨ ¬ ivN yj < Int32.ofNat ((tvN x).getD (ivN yi).toNatClampNeg []).length then R = some (trb s1 (Int32.ofNat 5) (s.2.2.1 25 k), none) else rPt N s n f m tg (ansM 2 (setC x (ivN yi).toNatClampNeg (ivN yj).toNatClampNeg (ivN z))) R) else rPt N s n f m tg (.inl (celT x yi yj z)) R
theorem r_put2 (hN : 170000 ≤ N) (hk : k < 8000) (H : rA s n f m [yi, yj, z]) (hx : rvl (s.2.2.1 47) f kx vx x) (wx : wfN x) (dx : x.1 ≤ 4) (h308 : mf_308 N tg (mI s 51 (Int32.ofNat n)) = some (mI s 51 (Int32.ofNat n), some (.int kx))) (h309 : mf_309 N tg (mI s 51 (Int32.ofNat n)) = some (mI s 51 (Int32.ofNat n), some (.int vx))) : rPc N s (mI s 51 (Int32.ofNat n)) n f m k tg x yi yj z (mf_318_80 N (Int32.ofNat k) (Int32.ofNat 1) tg (Int32.ofNat (n + 2)) (Int32.ofNat n) (mI s 51 (Int32.ofNat n))) := by
  have H' := H
  obtain ⟨⟨h51, hv⟩, H2, H3, H4, H5, H6, H7, H8, H9, H10⟩ := H'
  have hi : rvl (s.2.2.1 47) f (s.2.2.1 49 n) (s.2.2.1 50 n) yi := hv 0 (by show 0 < 3; omega)
  have hj : rvl (s.2.2.1 47) f (s.2.2.1 49 (n + 1)) (s.2.2.1 50 (n + 1)) yj := hv 1 (by show 1 < 3; omega)
  have hz : rvl (s.2.2.1 47) f (s.2.2.1 49 (n + 2)) (s.2.2.1 50 (n + 2)) z := hv 2 (by show 2 < 3; omega)
  have lx := kn_le (x := x)
  have s64 := wf64 wx
  have G0 : rG s (mI s 51 (Int32.ofNat n)) n f f [] := rG.nil H2
  obtain ⟨s1, hs1⟩ : ∃ s1, s1 = mI s 51 (Int32.ofNat n) := ⟨_, rfl⟩
  rw [← hs1] at G0 h308 h309 ⊢
  have hs47 : s1.2.2.1 = s.2.2.1 := by rw [hs1]; rfl
  have h66 : s1.1 66 = Int32.ofNat 0 := by rw [hs1]; exact H3
  rw [← hs47] at hx hi hj hz
  have T := fun q => rG.trb (N := N) H G0 (by omega) q
  have F3 : ∀ {a' kk' : Int32}, rPt N s n f m tg (.inl 3) (mf_318_236 N (Int32.ofNat k) (Int32.ofNat 1) tg (Int32.ofNat (n + 2)) (Int32.ofNat n) a' kk' (Int32.ofNat 0) s1) := fun {a' kk'} => by
    obtain ⟨b1, b2⟩ := T 3
    refine Or.inl ⟨3, _, rfl, ?_, b2⟩
    unfold mf_318_236 mf_318_241 mf_318_250
    simp (disch := omega) only [ev_S, ev_P, ↓reduceIte, Nat.reduceEqDiff, Nat.reduceLeDiff, Nat.reduceAdd, Nat.reduceMul, Nat.reduceSub, reduceCtorEq, l32_0, l32_1, l32_2, l32_3, l32_4, l32_5, l32_6, l32_7, l32_8, l32_9, l32_10, l32_11, l32_12, l32_13, l32_14, l32_15, l32_16, l32_17, l32_18, l32_19, l32_20, l32_21, l32_22, l32_23, l32_24, l32_25, l32_26, l32_27, l32_28, l32_29, l32_33, l32_40, l32_41, l32_44, l32_45, l32_59, l32_61, l32_91, l32_93, l32_123, l32_125, b1]
  have F5 : rPt N s n f m tg (.inl 5) (mf_318_276 N s1) := by
    obtain ⟨b1, b2⟩ := T 5
    refine Or.inl ⟨5, _, rfl, ?_, b2⟩
    unfold mf_318_276 mf_318_285
    simp (disch := omega) only [ev_S, ev_P, ↓reduceIte, Nat.reduceEqDiff, Nat.reduceLeDiff, Nat.reduceAdd, Nat.reduceMul, Nat.reduceSub, reduceCtorEq, l32_0, l32_1, l32_2, l32_3, l32_4, l32_5, l32_6, l32_7, l32_8, l32_9, l32_10, l32_11, l32_12, l32_13, l32_14, l32_15, l32_16, l32_17, l32_18, l32_19, l32_20, l32_21, l32_22, l32_23, l32_24, l32_25, l32_26, l32_27, l32_28, l32_29, l32_33, l32_40, l32_41, l32_44, l32_45, l32_59, l32_61, l32_91, l32_93, l32_123, l32_125, b1]
  unfold rPc
  by_cases cc : kn x = 2 ∧ kn yi = 0 ∧ kn yj = 0 ∧ kn z = 0
  · obtain ⟨c1, c2, c3, c4⟩ := cc
    have hcT : celT x yi yj z = if ivN yi < 0 ∨ ¬ ivN yi < Int32.ofNat (szN x) then 5 else 0 := if_pos ⟨c1, c2, c3, c4⟩
    rw [hcT]
    clear hcT
    obtain ⟨e1, a, e2, La⟩ := hx.th (by omega)
    have hka := lay_kn La (by omega)
    rw [c1] at hka
    have hla := LayN.lt La
    rw [e1] at h308
    rw [e2] at h309
    have q1 := (hi.iv c2).1
    have q2 := (hj.iv c3).1
    have q3 := (hz.iv c4).1
    have e5 := (hi.iv c2).2
    have e6 := (hj.iv c3).2
    have e7 := (hz.iv c4).2
    have E : mf_318_80 N (Int32.ofNat k) (Int32.ofNat 1) tg (Int32.ofNat (n + 2)) (Int32.ofNat n) s1 = mf_318_251 N (Int32.ofNat k) (Int32.ofNat 1) tg (Int32.ofNat (n + 2)) (Int32.ofNat n) (Int32.ofNat a) (Int32.ofNat 2) s1 := by
      unfold mf_318_80 mf_318_85 mf_318_92 mf_318_99 mf_318_106 mf_318_113 mf_318_123 mf_318_128 mf_318_134 mf_318_139 mf_318_145 mf_318_157 mf_318_167 mf_318_172 mf_318_236
      simp (disch := omega) only [ev_S, ev_P, ↓reduceIte, Nat.reduceEqDiff, Nat.reduceLeDiff, Nat.reduceAdd, Nat.reduceMul, Nat.reduceSub, reduceCtorEq, l32_0, l32_1, l32_2, l32_3, l32_4, l32_5, l32_6, l32_7, l32_8, l32_9, l32_10, l32_11, l32_12, l32_13, l32_14, l32_15, l32_16, l32_17, l32_18, l32_19, l32_20, l32_21, l32_22, l32_23, l32_24, l32_25, l32_26, l32_27, l32_28, l32_29, l32_33, l32_40, l32_41, l32_44, l32_45, l32_59, l32_61, l32_91, l32_93, l32_123, l32_125, h308, h309, hka, l32_166300, q1, q2, q3]
    rw [E]
    have hsz : mf_77 N (Int32.ofNat a) s1 = some (s1, some (.int (Int32.ofNat (szN x)))) := r_size (N := N) (s := s1) (LayN_iff.mp La).2 (Nat.le_trans (LayN.lt La).1 (by omega))
    by_cases cn : ivN yi < 0
    · rw [if_pos (Or.inl cn), if_neg (by omega)]
      have E5 : mf_318_251 N (Int32.ofNat k) (Int32.ofNat 1) tg (Int32.ofNat (n + 2)) (Int32.ofNat n) (Int32.ofNat a) (Int32.ofNat 2) s1 = mf_318_276 N s1 := by
        have cn : (ivN yi < Int32.ofNat 0) = True := eq_true cn
        unfold mf_318_251
        simp (disch := omega) only [ev_S, ev_P, ↓reduceIte, Nat.reduceEqDiff, Nat.reduceLeDiff, Nat.reduceAdd, Nat.reduceMul, Nat.reduceSub, reduceCtorEq, l32_0, l32_1, l32_2, l32_3, l32_4, l32_5, l32_6, l32_7, l32_8, l32_9, l32_10, l32_11, l32_12, l32_13, l32_14, l32_15, l32_16, l32_17, l32_18, l32_19, l32_20, l32_21, l32_22, l32_23, l32_24, l32_25, l32_26, l32_27, l32_28, l32_29, l32_33, l32_40, l32_41, l32_44, l32_45, l32_59, l32_61, l32_91, l32_93, l32_123, l32_125, e5, cn]
      rw [E5]
      exact F5
    · obtain ⟨i, hi', e⟩ := i32nn cn
      rw [e] at cn e5 ⊢
      by_cases cl : i < szN x
      · have g2 : ¬ (Int32.ofNat i < 0 ∨ ¬ Int32.ofNat i < Int32.ofNat (szN x)) := by
          intro q
          rcases q with q | q
          · exact cn q
          · refine q ?_
            rw [ev_lt (by omega) (by omega)]
            exact cl
        rw [if_neg g2, if_pos rfl]
        have tni : (Int32.ofNat i).toNatClampNeg = i := clamp_of rfl (by omega)
        rw [tni]
        have htl : (tvN x).length = szN x := (kn2_sz c1).symm
        obtain ⟨b, p1, p2⟩ := rG.partT (N := N) (i := i) G0 (by rw [← hs47]; exact La) (by omega) c1 (by omega)
        have hgd : (tvN x).getD i [] = (tvN x)[i]'(by omega) := by rw [List.getD_eq_getElem?_getD, List.getElem?_eq_getElem (by omega)]; rfl
        have hr64 : ((tvN x)[i]'(by omega)).length ≤ 64 := (tv_wf c1 wx).2.2 _ (List.getElem_mem _)
        unfold setC
        rw [hgd]
        generalize hr : (tvN x)[i]'(by omega) = r at *
        have hsr : mf_77 N (Int32.ofNat b) s1 = some (s1, some (.int (Int32.ofNat r.length))) := rG.size (N := N) G0 p2 (by omega)
        have E2 : mf_318_251 N (Int32.ofNat k) (Int32.ofNat 1) tg (Int32.ofNat (n + 2)) (Int32.ofNat n) (Int32.ofNat a) (Int32.ofNat 2) s1 = mf_318_316 N (Int32.ofNat k) tg (Int32.ofNat n) (Int32.ofNat a) (Int32.ofNat 2) (Int32.ofNat i) (ivN z) (Int32.ofNat b) s1 := by
          clear hgd htl hr
          generalize szN x = sx at *
          unfold mf_318_251 mf_318_265 mf_318_273 mf_318_286 mf_318_308
          simp (disch := omega) only [ev_S, ev_P, ↓reduceIte, Nat.reduceEqDiff, Nat.reduceLeDiff, Nat.reduceAdd, Nat.reduceMul, Nat.reduceSub, reduceCtorEq, l32_0, l32_1, l32_2, l32_3, l32_4, l32_5, l32_6, l32_7, l32_8, l32_9, l32_10, l32_11, l32_12, l32_13, l32_14, l32_15, l32_16, l32_17, l32_18, l32_19, l32_20, l32_21, l32_22, l32_23, l32_24, l32_25, l32_26, l32_27, l32_28, l32_29, l32_33, l32_40, l32_41, l32_44, l32_45, l32_59, l32_61, l32_91, l32_93, l32_123, l32_125, e5, hsz, cl, p1, e7]
        rw [E2]
        have T5 : mf_318_345 N (Int32.ofNat k) s1 = some (trb s1 (Int32.ofNat 5) (s.2.2.1 25 k), none) := by
          have b1 : mf_301 N (Int32.ofNat 5) (s.2.2.1 25 k) s1 = some (trb s1 (Int32.ofNat 5) (s.2.2.1 25 k), none) := r_trb h66
          rw [← hs47] at b1 ⊢
          unfold mf_318_345 mf_318_356
          simp (disch := omega) only [ev_S, ev_P, ↓reduceIte, Nat.reduceEqDiff, Nat.reduceLeDiff, Nat.reduceAdd, Nat.reduceMul, Nat.reduceSub, reduceCtorEq, l32_0, l32_1, l32_2, l32_3, l32_4, l32_5, l32_6, l32_7, l32_8, l32_9, l32_10, l32_11, l32_12, l32_13, l32_14, l32_15, l32_16, l32_17, l32_18, l32_19, l32_20, l32_21, l32_22, l32_23, l32_24, l32_25, l32_26, l32_27, l32_28, l32_29, l32_33, l32_40, l32_41, l32_44, l32_45, l32_59, l32_61, l32_91, l32_93, l32_123, l32_125, b1, l32_8000]
        by_cases jn : ivN yj < 0
        · rw [if_pos (Or.inl jn)]
          have jn : (ivN yj < Int32.ofNat 0) = True := eq_true jn
          unfold mf_318_316
          simp (disch := omega) only [ev_S, ev_P, ↓reduceIte, Nat.reduceEqDiff, Nat.reduceLeDiff, Nat.reduceAdd, Nat.reduceMul, Nat.reduceSub, reduceCtorEq, l32_0, l32_1, l32_2, l32_3, l32_4, l32_5, l32_6, l32_7, l32_8, l32_9, l32_10, l32_11, l32_12, l32_13, l32_14, l32_15, l32_16, l32_17, l32_18, l32_19, l32_20, l32_21, l32_22, l32_23, l32_24, l32_25, l32_26, l32_27, l32_28, l32_29, l32_33, l32_40, l32_41, l32_44, l32_45, l32_59, l32_61, l32_91, l32_93, l32_123, l32_125, e6, jn, T5]
        · obtain ⟨j, hj', e'⟩ := i32nn jn
          rw [e'] at jn e6 ⊢
          by_cases jl : j < r.length
          · have g3 : ¬ (Int32.ofNat j < 0 ∨ ¬ Int32.ofNat j < Int32.ofNat r.length) := by
              intro q
              rcases q with q | q
              · exact jn q
              · refine q ?_
                rw [ev_lt (by omega) (by omega)]
                exact jl
            rw [if_neg g3]
            have tnj : (Int32.ofNat j).toNatClampNeg = j := clamp_of rfl (by omega)
            rw [tnj]
            obtain ⟨s2, u1, u2, u3⟩ := r_putR (N := N) (tg := tg) (kx := Int32.ofNat 2) (vz := ivN z) (ax := Int32.ofNat a) (kp := Int32.ofNat i) hN G0 (by omega) p2 hr64 H8 jl
            obtain ⟨s3, v1, v2⟩ := r_putL (N := N) (tg := tg) (kx := Int32.ofNat 2) hN u2 (by omega) (by rw [← hs47]; exact La) s64 H8 u3 cl
            have E3 : mf_318_316 N (Int32.ofNat k) tg (Int32.ofNat n) (Int32.ofNat a) (Int32.ofNat 2) (Int32.ofNat i) (ivN z) (Int32.ofNat b) s1 = mf_318_476 N tg (Int32.ofNat n) (Int32.ofNat 2) s3 := by
              rw [v1] at u1
              clear v1 v2 u2 u3 hgd htl hr
              generalize r.length = sr at *
              unfold mf_318_316 mf_318_334 mf_318_342
              simp (disch := omega) only [ev_S, ev_P, ↓reduceIte, Nat.reduceEqDiff, Nat.reduceLeDiff, Nat.reduceAdd, Nat.reduceMul, Nat.reduceSub, reduceCtorEq, l32_0, l32_1, l32_2, l32_3, l32_4, l32_5, l32_6, l32_7, l32_8, l32_9, l32_10, l32_11, l32_12, l32_13, l32_14, l32_15, l32_16, l32_17, l32_18, l32_19, l32_20, l32_21, l32_22, l32_23, l32_24, l32_25, l32_26, l32_27, l32_28, l32_29, l32_33, l32_40, l32_41, l32_44, l32_45, l32_59, l32_61, l32_91, l32_93, l32_123, l32_125, e6, hsr, jl, u1]
            rw [E3]
            have hls : (r.set j (ivN z)).length = r.length := List.length_set
            have hg := (setC_grw (x := x) (i := i) (r := nR (r.set j (ivN z)))).2
            have hgs : szN (nR (r.set j (ivN z))) = r.length := hls
            rw [hgs] at hg
            have hfit : fitP x (nR (r.set j (ivN z))) := Or.inr ⟨by omega, by rw [c1]; rfl⟩
            have hok := setP_ok (i := i) hfit
            rw [c1] at hok
            have wr : wfN (nR (r.set j (ivN z))) := by
              show (r.set j (ivN z)).length ≤ 64
              omega
            exact r_put9 hN H v2 hok (fun p hp => by rcases setP_mem hp with q | q; exact wf_pts wx p q; rw [q]; exact wr) (fun p hp => by rcases setP_mem hp with q | q; exact Nat.le_trans (pts_lv p q) dx; rw [q]; exact Nat.zero_le _) (by omega) (by omega) (by rw [setP_len cl]; omega) (by rw [setP_len cl]; omega)
          · have g3 : Int32.ofNat j < 0 ∨ ¬ Int32.ofNat j < Int32.ofNat r.length := by
              right
              rw [ev_lt (by omega) (by omega)]
              exact jl
            rw [if_pos g3]
            clear hgd htl hr
            generalize r.length = sr at *
            unfold mf_318_316 mf_318_334 mf_318_342
            simp (disch := omega) only [ev_S, ev_P, ↓reduceIte, Nat.reduceEqDiff, Nat.reduceLeDiff, Nat.reduceAdd, Nat.reduceMul, Nat.reduceSub, reduceCtorEq, l32_0, l32_1, l32_2, l32_3, l32_4, l32_5, l32_6, l32_7, l32_8, l32_9, l32_10, l32_11, l32_12, l32_13, l32_14, l32_15, l32_16, l32_17, l32_18, l32_19, l32_20, l32_21, l32_22, l32_23, l32_24, l32_25, l32_26, l32_27, l32_28, l32_29, l32_33, l32_40, l32_41, l32_44, l32_45, l32_59, l32_61, l32_91, l32_93, l32_123, l32_125, e6, hsr, jl, T5]
      · have g2 : Int32.ofNat i < 0 ∨ ¬ Int32.ofNat i < Int32.ofNat (szN x) := by
          right
          rw [ev_lt (by omega) (by omega)]
          exact cl
        rw [if_pos g2, if_neg (by omega)]
        have E5 : mf_318_251 N (Int32.ofNat k) (Int32.ofNat 1) tg (Int32.ofNat (n + 2)) (Int32.ofNat n) (Int32.ofNat a) (Int32.ofNat 2) s1 = mf_318_276 N s1 := by
          generalize szN x = sx at *
          unfold mf_318_251 mf_318_265 mf_318_273
          simp (disch := omega) only [ev_S, ev_P, ↓reduceIte, Nat.reduceEqDiff, Nat.reduceLeDiff, Nat.reduceAdd, Nat.reduceMul, Nat.reduceSub, reduceCtorEq, l32_0, l32_1, l32_2, l32_3, l32_4, l32_5, l32_6, l32_7, l32_8, l32_9, l32_10, l32_11, l32_12, l32_13, l32_14, l32_15, l32_16, l32_17, l32_18, l32_19, l32_20, l32_21, l32_22, l32_23, l32_24, l32_25, l32_26, l32_27, l32_28, l32_29, l32_33, l32_40, l32_41, l32_44, l32_45, l32_59, l32_61, l32_91, l32_93, l32_123, l32_125, e5, hsz, cl]
        rw [E5]
        exact F5
  · have hcT : celT x yi yj z = 3 := if_neg cc
    rw [hcT, if_neg (by omega)]
    have key : ∃ a' kk', mf_318_80 N (Int32.ofNat k) (Int32.ofNat 1) tg (Int32.ofNat (n + 2)) (Int32.ofNat n) s1 = mf_318_236 N (Int32.ofNat k) (Int32.ofNat 1) tg (Int32.ofNat (n + 2)) (Int32.ofNat n) a' kk' (Int32.ofNat 0) s1 := by
      by_cases c0 : kn x = 0
      · have e1 := (hx.iv c0).1
        rw [e1] at h308
        refine ⟨vx, Int32.ofNat 0, ?_⟩
        unfold mf_318_80 mf_318_85 mf_318_92 mf_318_95 mf_318_106 mf_318_127 mf_318_128 mf_318_134 mf_318_171 mf_318_172
        simp (disch := omega) only [ev_S, ev_P, ↓reduceIte, Nat.reduceEqDiff, Nat.reduceLeDiff, Nat.reduceAdd, Nat.reduceMul, Nat.reduceSub, reduceCtorEq, l32_0, l32_1, l32_2, l32_3, l32_4, l32_5, l32_6, l32_7, l32_8, l32_9, l32_10, l32_11, l32_12, l32_13, l32_14, l32_15, l32_16, l32_17, l32_18, l32_19, l32_20, l32_21, l32_22, l32_23, l32_24, l32_25, l32_26, l32_27, l32_28, l32_29, l32_33, l32_40, l32_41, l32_44, l32_45, l32_59, l32_61, l32_91, l32_93, l32_123, l32_125, h308, h309]
      · obtain ⟨e1, a, e2, La⟩ := hx.th c0
        have hka := lay_kn La c0
        have hla := LayN.lt La
        rw [e1] at h308
        rw [e2] at h309
        refine ⟨Int32.ofNat a, Int32.ofNat (kn x), ?_⟩
        have c1 : ¬ kn x ≤ 0 := by omega
        clear T F3 F5 hcT
        rcases hi.kz with ⟨q1, q2⟩ | ⟨q1, q2, -⟩
        · by_cases c2 : kn x = 2
          · rcases hj.kz with ⟨q3, q4⟩ | ⟨q3, q4, -⟩
            · rcases hz.kz with ⟨q5, q6⟩ | ⟨q5, q6, -⟩
              · exact absurd ⟨c2, q2, q4, q6⟩ cc
              · clear cc
                rw [c2] at hka ⊢
                unfold mf_318_80 mf_318_85 mf_318_92 mf_318_99 mf_318_106 mf_318_113 mf_318_123 mf_318_128 mf_318_134 mf_318_139 mf_318_145 mf_318_157 mf_318_171 mf_318_172
                simp (disch := omega) only [ev_S, ev_P, ↓reduceIte, Nat.reduceEqDiff, Nat.reduceLeDiff, Nat.reduceAdd, Nat.reduceMul, Nat.reduceSub, reduceCtorEq, l32_0, l32_1, l32_2, l32_3, l32_4, l32_5, l32_6, l32_7, l32_8, l32_9, l32_10, l32_11, l32_12, l32_13, l32_14, l32_15, l32_16, l32_17, l32_18, l32_19, l32_20, l32_21, l32_22, l32_23, l32_24, l32_25, l32_26, l32_27, l32_28, l32_29, l32_33, l32_40, l32_41, l32_44, l32_45, l32_59, l32_61, l32_91, l32_93, l32_123, l32_125, h308, h309, hka, l32_166300, q1, q3, q5]
            · clear cc
              rw [c2] at hka ⊢
              unfold mf_318_80 mf_318_85 mf_318_92 mf_318_99 mf_318_106 mf_318_113 mf_318_123 mf_318_128 mf_318_134 mf_318_139 mf_318_145 mf_318_171 mf_318_172
              simp (disch := omega) only [ev_S, ev_P, ↓reduceIte, Nat.reduceEqDiff, Nat.reduceLeDiff, Nat.reduceAdd, Nat.reduceMul, Nat.reduceSub, reduceCtorEq, l32_0, l32_1, l32_2, l32_3, l32_4, l32_5, l32_6, l32_7, l32_8, l32_9, l32_10, l32_11, l32_12, l32_13, l32_14, l32_15, l32_16, l32_17, l32_18, l32_19, l32_20, l32_21, l32_22, l32_23, l32_24, l32_25, l32_26, l32_27, l32_28, l32_29, l32_33, l32_40, l32_41, l32_44, l32_45, l32_59, l32_61, l32_91, l32_93, l32_123, l32_125, h308, h309, hka, l32_166300, q1, q3]
          · clear cc
            generalize kn x = kk at *
            unfold mf_318_80 mf_318_85 mf_318_92 mf_318_99 mf_318_106 mf_318_113 mf_318_123 mf_318_128 mf_318_134 mf_318_139 mf_318_171 mf_318_172
            simp (disch := omega) only [ev_S, ev_P, ↓reduceIte, Nat.reduceEqDiff, Nat.reduceLeDiff, Nat.reduceAdd, Nat.reduceMul, Nat.reduceSub, reduceCtorEq, l32_0, l32_1, l32_2, l32_3, l32_4, l32_5, l32_6, l32_7, l32_8, l32_9, l32_10, l32_11, l32_12, l32_13, l32_14, l32_15, l32_16, l32_17, l32_18, l32_19, l32_20, l32_21, l32_22, l32_23, l32_24, l32_25, l32_26, l32_27, l32_28, l32_29, l32_33, l32_40, l32_41, l32_44, l32_45, l32_59, l32_61, l32_91, l32_93, l32_123, l32_125, h308, h309, hka, l32_166300, c1, q1, c2]
        · clear cc
          generalize kn x = kk at *
          unfold mf_318_80 mf_318_85 mf_318_92 mf_318_99 mf_318_106 mf_318_113 mf_318_127 mf_318_128 mf_318_134 mf_318_171 mf_318_172
          simp (disch := omega) only [ev_S, ev_P, ↓reduceIte, Nat.reduceEqDiff, Nat.reduceLeDiff, Nat.reduceAdd, Nat.reduceMul, Nat.reduceSub, reduceCtorEq, l32_0, l32_1, l32_2, l32_3, l32_4, l32_5, l32_6, l32_7, l32_8, l32_9, l32_10, l32_11, l32_12, l32_13, l32_14, l32_15, l32_16, l32_17, l32_18, l32_19, l32_20, l32_21, l32_22, l32_23, l32_24, l32_25, l32_26, l32_27, l32_28, l32_29, l32_33, l32_40, l32_41, l32_44, l32_45, l32_59, l32_61, l32_91, l32_93, l32_123, l32_125, h308, h309, hka, l32_166300, c1, q1]
    obtain ⟨a', kk', E⟩ := key
    rw [E]
    exact F3
end PT2
end
