/-! ===== PURE: run (133): what each gives, the reference ===== -/
section EAR
variable {N nw a : Nat} {x y : Nod} {xs : List Nod} {s s' : mS} {n f m : Nat}
/-- the scan -/
theorem r_eachS (hN : 170000 ≤ N) (H : rA s n f m xs) (hl : xs.length ≤ 3000) : mf_317_L8 N N 0 (Int32.ofNat n) (Int32.ofNat 1) (Int32.ofNat 1) (Int32.ofNat n) s = mf_317_279 N (Int32.ofNat n) (bI (aK 0 xs)) (bI (aK 1 xs)) s := by
  obtain ⟨⟨h51, hv⟩, H2, H3, H4, H5, H6, H7, H8, H9, H10⟩ := H
  have L := lp (fun f i (a : Int32 × Int32) => mf_317_L8 N f 0 (Int32.ofNat n) a.1 a.2 (Int32.ofNat (n + i)) s) xs.length (fun i a => a.1 = bI (aK 0 (xs.take i)) ∧ a.2 = bI (aK 1 (xs.take i))) (fun r => r = mf_317_279 N (Int32.ofNat n) (bI (aK 0 xs)) (bI (aK 1 xs)) s) (by
    intro f1 i a hi hP _
    left
    obtain ⟨a1, a2⟩ := a
    obtain ⟨e1, e2⟩ := hP
    have e1 : a1 = _ := e1
    have e2 : a2 = _ := e2
    subst e1
    subst e2
    have hx := hv i hi
    have hka := r_kindAt (N := N) hx (by omega) (by omega)
    rw [kd_kn] at hka
    have n1 : ¬ n + xs.length ≤ n + i := by omega
    have kl := kn_le (x := xs[i])
    refine ⟨(_, _), ⟨rfl, rfl⟩, ?_⟩
    show mf_317_220 N (mf_317_L8 N f1) (Int32.ofNat n) (bI (aK 0 (xs.take i))) (bI (aK 1 (xs.take i))) (Int32.ofNat (n + i)) s = mf_317_L8 N f1 0 (Int32.ofNat n) (bI (aK 0 (xs.take (i + 1)))) (bI (aK 1 (xs.take (i + 1)))) (Int32.ofNat (n + (i + 1))) s
    rw [aK_s hi, aK_s hi]
    have hkz := rvl.kz hx
    generalize kn xs[i] = kk at *
    generalize aK 0 (xs.take i) = A
    generalize aK 1 (xs.take i) = B
    have e0 : (kk == 0) = decide (kk = 0) := rfl
    have e1 : (kk == 1) = decide (kk = 1) := rfl
    rw [e0, e1]
    rcases hkz with ⟨k1, k2⟩ | ⟨k1, k2, -⟩
    · rw [decide_eq_true k2, decide_eq_false (show ¬ kk = 1 by omega)]
      cases A <;> cases B <;> simp only [bI, Bool.true_and, Bool.false_and, Bool.and_false, Bool.and_true, if_true, reduceCtorEq, if_false] <;> (repeat ((first | unfold mf_317 | unfold mf_317_0 | unfold mf_317_22 | unfold mf_317_26 | unfold mf_317_33 | unfold mf_317_34 | unfold mf_317_43 | unfold mf_317_53 | unfold mf_317_54 | unfold mf_317_70 | unfold mf_317_97 | unfold mf_317_101 | unfold mf_317_102 | unfold mf_317_106 | unfold mf_317_107 | unfold mf_317_127 | unfold mf_317_128 | unfold mf_317_150 | unfold mf_317_156 | unfold mf_317_157 | unfold mf_317_165 | unfold mf_317_180 | unfold mf_317_184 | unfold mf_317_185 | unfold mf_317_195 | unfold mf_317_210 | unfold mf_317_214 | unfold mf_317_215 | unfold mf_317_220 | unfold mf_317_229 | unfold mf_317_234 | unfold mf_317_244 | unfold mf_317_248 | unfold mf_317_249 | unfold mf_317_256 | unfold mf_317_262 | unfold mf_317_266 | unfold mf_317_270 | unfold mf_317_271 | unfold mf_317_279 | unfold mf_317_284 | unfold mf_317_290 | unfold mf_317_293 | unfold mf_317_298 | unfold mf_317_304 | unfold mf_317_307 | unfold mf_317_316); try simp (disch := omega) only [ev_S, ev_P, ↓reduceIte, Nat.reduceEqDiff, Nat.reduceLeDiff, Nat.reduceAdd, Nat.reduceMul, Nat.reduceSub, reduceCtorEq, l32_0, l32_1, l32_2, l32_3, l32_4, l32_8, l32_10, l32_25, l32_47, l32_49, l32_51, l32_400, l32_8000, l32_9000, l32_166300, h51, n1, k1, hka, k2])) <;> (try rfl)
    · rw [decide_eq_false k2]
      by_cases k3 : kk = 1
      · rw [decide_eq_true k3]
        cases A <;> cases B <;> simp only [bI, Bool.true_and, Bool.false_and, Bool.and_false, Bool.and_true, if_true, reduceCtorEq, if_false] <;> (repeat ((first | unfold mf_317 | unfold mf_317_0 | unfold mf_317_22 | unfold mf_317_26 | unfold mf_317_33 | unfold mf_317_34 | unfold mf_317_43 | unfold mf_317_53 | unfold mf_317_54 | unfold mf_317_70 | unfold mf_317_97 | unfold mf_317_101 | unfold mf_317_102 | unfold mf_317_106 | unfold mf_317_107 | unfold mf_317_127 | unfold mf_317_128 | unfold mf_317_150 | unfold mf_317_156 | unfold mf_317_157 | unfold mf_317_165 | unfold mf_317_180 | unfold mf_317_184 | unfold mf_317_185 | unfold mf_317_195 | unfold mf_317_210 | unfold mf_317_214 | unfold mf_317_215 | unfold mf_317_220 | unfold mf_317_229 | unfold mf_317_234 | unfold mf_317_244 | unfold mf_317_248 | unfold mf_317_249 | unfold mf_317_256 | unfold mf_317_262 | unfold mf_317_266 | unfold mf_317_270 | unfold mf_317_271 | unfold mf_317_279 | unfold mf_317_284 | unfold mf_317_290 | unfold mf_317_293 | unfold mf_317_298 | unfold mf_317_304 | unfold mf_317_307 | unfold mf_317_316); try simp (disch := omega) only [ev_S, ev_P, ↓reduceIte, Nat.reduceEqDiff, Nat.reduceLeDiff, Nat.reduceAdd, Nat.reduceMul, Nat.reduceSub, reduceCtorEq, l32_0, l32_1, l32_2, l32_3, l32_4, l32_8, l32_10, l32_25, l32_47, l32_49, l32_51, l32_400, l32_8000, l32_9000, l32_166300, h51, n1, k1, hka, k3])) <;> (try rfl)
      · rw [decide_eq_false k3]
        cases A <;> cases B <;> simp only [bI, Bool.true_and, Bool.false_and, Bool.and_false, Bool.and_true, if_true, reduceCtorEq, if_false] <;> (repeat ((first | unfold mf_317 | unfold mf_317_0 | unfold mf_317_22 | unfold mf_317_26 | unfold mf_317_33 | unfold mf_317_34 | unfold mf_317_43 | unfold mf_317_53 | unfold mf_317_54 | unfold mf_317_70 | unfold mf_317_97 | unfold mf_317_101 | unfold mf_317_102 | unfold mf_317_106 | unfold mf_317_107 | unfold mf_317_127 | unfold mf_317_128 | unfold mf_317_150 | unfold mf_317_156 | unfold mf_317_157 | unfold mf_317_165 | unfold mf_317_180 | unfold mf_317_184 | unfold mf_317_185 | unfold mf_317_195 | unfold mf_317_210 | unfold mf_317_214 | unfold mf_317_215 | unfold mf_317_220 | unfold mf_317_229 | unfold mf_317_234 | unfold mf_317_244 | unfold mf_317_248 | unfold mf_317_249 | unfold mf_317_256 | unfold mf_317_262 | unfold mf_317_266 | unfold mf_317_270 | unfold mf_317_271 | unfold mf_317_279 | unfold mf_317_284 | unfold mf_317_290 | unfold mf_317_293 | unfold mf_317_298 | unfold mf_317_304 | unfold mf_317_307 | unfold mf_317_316); try simp (disch := omega) only [ev_S, ev_P, ↓reduceIte, Nat.reduceEqDiff, Nat.reduceLeDiff, Nat.reduceAdd, Nat.reduceMul, Nat.reduceSub, reduceCtorEq, l32_0, l32_1, l32_2, l32_3, l32_4, l32_8, l32_10, l32_25, l32_47, l32_49, l32_51, l32_400, l32_8000, l32_9000, l32_166300, h51, n1, k1, hka, k3])) <;> (try rfl)) (by
    intro f1 a hP
    obtain ⟨a1, a2⟩ := a
    obtain ⟨e1, e2⟩ := hP
    rw [List.take_length] at e1 e2
    have e1 : a1 = _ := e1
    have e2 : a2 = _ := e2
    subst e1
    subst e2
    show mf_317_220 N (mf_317_L8 N f1) (Int32.ofNat n) _ _ (Int32.ofNat (n + xs.length)) s = _
    unfold mf_317_220
    simp (disch := omega) only [ev_S, ev_P, ↓reduceIte, Nat.reduceEqDiff, Nat.reduceLeDiff, Nat.reduceAdd, Nat.reduceMul, Nat.reduceSub, reduceCtorEq, l32_0, l32_1, l32_2, l32_3, l32_4, l32_5, l32_6, l32_7, l32_8, l32_9, l32_10, l32_11, l32_12, l32_13, l32_14, l32_15, l32_16, l32_17, l32_18, l32_19, l32_20, l32_21, l32_22, l32_23, l32_24, l32_25, l32_26, l32_27, l32_28, l32_29, l32_33, l32_40, l32_41, l32_44, l32_45, l32_59, l32_61, l32_91, l32_93, l32_123, l32_125, h51]) xs.length 0 N (1, 1) (Nat.zero_add _) (by omega) ⟨rfl, rfl⟩
  exact L
end EAR
