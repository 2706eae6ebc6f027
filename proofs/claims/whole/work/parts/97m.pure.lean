/-! ===== PURE: run (66): do all values suit (the reference's builtIn) ===== -/
section SUL
variable {N : Nat} {s : mS} {n f m b : Nat} {xs : List Nod}
def suP (b : Nat) (xs : List Nod) (i : Nat) : Bool := (List.range i).all fun j => suB b j (kn (xs.getD j (nZ 0))) (kn (xs.getD 0 (nZ 0)))
theorem suP_s {i : Nat} : suP b xs (i + 1) = (suP b xs i && suB b i (kn (xs.getD i (nZ 0))) (kn (xs.getD 0 (nZ 0)))) := by
  unfold suP
  rw [List.range_succ, List.all_append]
  show (_ && (_ && true)) = _
  rw [Bool.and_true]
theorem r_suits (hN : 170000 ≤ N) (H : rA s n f m xs) (hb : b < 28) (hx : b = 5 ∨ xs.length ≤ 2) : mf_328 N (Int32.ofNat b) (Int32.ofNat n) s = if suP b xs xs.length = true then mf_328_66 N (Int32.ofNat b) (Int32.ofNat n) s else mf_328_56 N s := by
  have H' := H
  obtain ⟨H1, H2, H3, H4, H5, H6, H7, H8, H9, H10⟩ := H'
  have h51 : s.1 51 = Int32.ofNat (n + xs.length) := H1.1
  have hv := H.g.2.1
  have E1 : mf_328 N (Int32.ofNat b) (Int32.ofNat n) s = mf_328_L17 N N 0 (Int32.ofNat b) (Int32.ofNat n) (Int32.ofNat 1) (Int32.ofNat (n + 0)) s := rfl
  rw [E1]
  refine lp (fun F i (c : Bool) => mf_328_L17 N F 0 (Int32.ofNat b) (Int32.ofNat n) (suI c) (Int32.ofNat (n + i)) s) xs.length (fun i c => c = suP b xs i) (fun R => R = if suP b xs xs.length = true then mf_328_66 N (Int32.ofNat b) (Int32.ofNat n) s else mf_328_56 N s) ?_ ?_ xs.length 0 N true (Nat.zero_add _) (by omega) rfl
  · intro F i c hi hP _
    left
    refine ⟨suP b xs (i + 1), rfl, ?_⟩
    subst hP
    rw [suP_s]
    show mf_328_5 N (mf_328_L17 N F) (Int32.ofNat b) (Int32.ofNat n) (suI (suP b xs i)) (Int32.ofNat (n + i)) s = _
    have n1 : ¬ n + xs.length ≤ n + i := by omega
    cases suP b xs i with
    | false =>
      rw [Bool.false_and]
      show mf_328_5 N (mf_328_L17 N F) (Int32.ofNat b) (Int32.ofNat n) (Int32.ofNat 0) (Int32.ofNat (n + i)) s = mf_328_L17 N F 0 (Int32.ofNat b) (Int32.ofNat n) (Int32.ofNat 0) (Int32.ofNat (n + i + 1)) s
      unfold mf_328_5 mf_328_14 mf_328_44 mf_328_45
      simp (disch := omega) only [ev_S, ev_P, ↓reduceIte, Nat.reduceEqDiff, Nat.reduceLeDiff, Nat.reduceAdd, Nat.reduceMul, Nat.reduceSub, reduceCtorEq, l32_0, l32_1, l32_2, l32_3, l32_4, l32_5, l32_6, l32_7, l32_8, l32_9, l32_10, l32_11, l32_12, l32_13, l32_14, l32_15, l32_16, l32_17, l32_18, l32_19, l32_20, l32_21, l32_22, l32_23, l32_24, l32_25, l32_26, l32_27, l32_28, l32_29, l32_33, l32_40, l32_41, l32_44, l32_45, l32_59, l32_61, l32_91, l32_93, l32_123, l32_125, h51, n1]
    | true =>
      rw [Bool.true_and]
      have h0 : 0 < xs.length := by omega
      have k1 := r_kindAt (N := N) (hv i hi) (by omega) (by omega)
      have k2 := r_kindAt (N := N) (hv 0 h0) (by omega) (by omega)
      rw [kd_kn] at k1 k2
      have k2 : mf_292 N (Int32.ofNat n) s = _ := k2
      have g1 : xs.getD i (nZ 0) = xs[i] := by rw [List.getD_eq_getElem?_getD, List.getElem?_eq_getElem hi]; rfl
      have g0 : xs.getD 0 (nZ 0) = xs[0] := by rw [List.getD_eq_getElem?_getD, List.getElem?_eq_getElem h0]; rfl
      rw [g1, g0]
      have l1 := kn_le (x := xs[i])
      have l2 := kn_le (x := xs[0])
      have su : mf_327 N (Int32.ofNat b) (Int32.ofNat i) (Int32.ofNat (kn xs[i])) (Int32.ofNat (kn xs[0])) s = some (s, some (.int (suI (suB b i (kn xs[i]) (kn xs[0]))))) := by
        rcases hx with rfl | hx
        · exact r_suit5
        · exact r_suit0 (by omega) (by omega) hb (by omega)
      have su : mf_327 N (Int32.ofNat b) (Int32.ofNat (n + i - n)) (Int32.ofNat (kn xs[i])) (Int32.ofNat (kn xs[0])) s = some (s, some (.int (suI (suB b i (kn xs[i]) (kn xs[0]))))) := by
        rw [Nat.add_sub_cancel_left]
        exact su
      show mf_328_5 N (mf_328_L17 N F) (Int32.ofNat b) (Int32.ofNat n) (Int32.ofNat 1) (Int32.ofNat (n + i)) s = mf_328_L17 N F 0 (Int32.ofNat b) (Int32.ofNat n) (suI (suB b i (kn xs[i]) (kn xs[0]))) (Int32.ofNat (n + i + 1)) s
      generalize suB b i (kn xs[i]) (kn xs[0]) = c at *
      generalize kn xs[i] = p1 at *
      generalize kn xs[0] = p2 at *
      cases c with
      | false =>
        have su : mf_327 N (Int32.ofNat b) (Int32.ofNat (n + i - n)) (Int32.ofNat p1) (Int32.ofNat p2) s = some (s, some (.int (Int32.ofNat 0))) := su
        show _ = mf_328_L17 N F 0 (Int32.ofNat b) (Int32.ofNat n) (Int32.ofNat 0) (Int32.ofNat (n + i + 1)) s
        unfold mf_328_5 mf_328_14 mf_328_18 mf_328_29 mf_328_34 mf_328_37 mf_328_44 mf_328_45
        have sb : Int32.ofNat (n + i) - Int32.ofNat n = Int32.ofNat (n + i - n) := (Int32.ofNat_sub _ _ (by omega)).symm
        simp (disch := omega) only [ev_S, ev_P, ↓reduceIte, Nat.reduceEqDiff, Nat.reduceLeDiff, Nat.reduceAdd, Nat.reduceMul, Nat.reduceSub, reduceCtorEq, l32_0, l32_1, l32_2, l32_3, l32_4, l32_5, l32_6, l32_7, l32_8, l32_9, l32_10, l32_11, l32_12, l32_13, l32_14, l32_15, l32_16, l32_17, l32_18, l32_19, l32_20, l32_21, l32_22, l32_23, l32_24, l32_25, l32_26, l32_27, l32_28, l32_29, l32_33, l32_40, l32_41, l32_44, l32_45, l32_59, l32_61, l32_91, l32_93, l32_123, l32_125, h51, n1, k1, k2, sb, su]
      | true =>
        have su : mf_327 N (Int32.ofNat b) (Int32.ofNat (n + i - n)) (Int32.ofNat p1) (Int32.ofNat p2) s = some (s, some (.int (Int32.ofNat 1))) := su
        show _ = mf_328_L17 N F 0 (Int32.ofNat b) (Int32.ofNat n) (Int32.ofNat 1) (Int32.ofNat (n + i + 1)) s
        unfold mf_328_5 mf_328_14 mf_328_18 mf_328_29 mf_328_34 mf_328_37 mf_328_40 mf_328_45
        have sb : Int32.ofNat (n + i) - Int32.ofNat n = Int32.ofNat (n + i - n) := (Int32.ofNat_sub _ _ (by omega)).symm
        simp (disch := omega) only [ev_S, ev_P, ↓reduceIte, Nat.reduceEqDiff, Nat.reduceLeDiff, Nat.reduceAdd, Nat.reduceMul, Nat.reduceSub, reduceCtorEq, l32_0, l32_1, l32_2, l32_3, l32_4, l32_5, l32_6, l32_7, l32_8, l32_9, l32_10, l32_11, l32_12, l32_13, l32_14, l32_15, l32_16, l32_17, l32_18, l32_19, l32_20, l32_21, l32_22, l32_23, l32_24, l32_25, l32_26, l32_27, l32_28, l32_29, l32_33, l32_40, l32_41, l32_44, l32_45, l32_59, l32_61, l32_91, l32_93, l32_123, l32_125, h51, n1, k1, k2, sb, su]
  · intro F c hP
    subst hP
    show mf_328_5 N (mf_328_L17 N F) (Int32.ofNat b) (Int32.ofNat n) (suI (suP b xs xs.length)) (Int32.ofNat (n + xs.length)) s = _
    clear hv H1 H
    generalize xs.length = l at *
    cases suP b xs l with
    | false =>
      show mf_328_5 N (mf_328_L17 N F) (Int32.ofNat b) (Int32.ofNat n) (Int32.ofNat 0) (Int32.ofNat (n + l)) s = mf_328_56 N s
      unfold mf_328_5 mf_328_52
      simp (disch := omega) only [ev_S, ev_P, ↓reduceIte, Nat.reduceEqDiff, Nat.reduceLeDiff, Nat.reduceAdd, Nat.reduceMul, Nat.reduceSub, reduceCtorEq, l32_0, l32_1, l32_2, l32_3, l32_4, l32_5, l32_6, l32_7, l32_8, l32_9, l32_10, l32_11, l32_12, l32_13, l32_14, l32_15, l32_16, l32_17, l32_18, l32_19, l32_20, l32_21, l32_22, l32_23, l32_24, l32_25, l32_26, l32_27, l32_28, l32_29, l32_33, l32_40, l32_41, l32_44, l32_45, l32_59, l32_61, l32_91, l32_93, l32_123, l32_125, h51]
    | true =>
      show mf_328_5 N (mf_328_L17 N F) (Int32.ofNat b) (Int32.ofNat n) (Int32.ofNat 1) (Int32.ofNat (n + l)) s = mf_328_66 N (Int32.ofNat b) (Int32.ofNat n) s
      unfold mf_328_5 mf_328_52
      simp (disch := omega) only [ev_S, ev_P, ↓reduceIte, Nat.reduceEqDiff, Nat.reduceLeDiff, Nat.reduceAdd, Nat.reduceMul, Nat.reduceSub, reduceCtorEq, l32_0, l32_1, l32_2, l32_3, l32_4, l32_5, l32_6, l32_7, l32_8, l32_9, l32_10, l32_11, l32_12, l32_13, l32_14, l32_15, l32_16, l32_17, l32_18, l32_19, l32_20, l32_21, l32_22, l32_23, l32_24, l32_25, l32_26, l32_27, l32_28, l32_29, l32_33, l32_40, l32_41, l32_44, l32_45, l32_59, l32_61, l32_91, l32_93, l32_123, l32_125, h51]
end SUL
