/-! ===== PURE: run (18): literals, the class ===== -/
section LIC
variable {N k : Nat} {X : Nat → Option zz_C} {t t' : cS} {u u' w i : Nat} {v : Int64} {x : Nod} {xs : List Nod}
theorem aK_f {i : Nat} (h : aK k (xs.take i) = false) : aK k xs = false := by
  rw [← List.take_append_drop i xs]
  unfold aK at *
  rw [List.all_append, h, Bool.false_and]
theorem c_kn (h : cN (cel t) u v x) : cf_255 N X v t = some (t, .inl (some (.int (Int32.ofNat (kn x))))) := by
  rw [c_kind h]
  have e : kdV (vw x) = Int32.ofNat (kn x) := kd_kn
  rw [e]
theorem c_lit (hN : 170000 ≤ N) (H : cG t t' u u 0 xs) (hw : ∀ x ∈ xs, wfN x) (hd : ∀ x ∈ xs, x.1 ≤ 4) (hl : xs.length ≤ 3000) (hu : u ≤ 162000) : ∃ t'' v, cf_127 N X (Int32.ofNat 1) (Int32.ofNat 0) t' = some (t'', .inl (some (.long v))) ∧ cE t t'' u v (ansL xs) := by
  have H' := H
  obtain ⟨⟨h1, h2, h3, h4, h5, h6, h7, h8, h9⟩, -, -, -, -, hr⟩ := H'
  rw [Nat.zero_add] at h2 h4
  have R87 : ∀ kk : Nat, kk ≤ 1 → (aK kk xs = true → ansL xs = ansM (kk + 1) xs) → (aK kk xs = false → ansL xs = .inl 3) → ∃ t'' v, cf_127_87 N X (Int32.ofNat 0) (Int32.ofNat (kk + 1)) (bI (aK kk xs)) t' = some (t'', .inl (some (.long v))) ∧ cE t t'' u v (ansL xs) := by
    intro kk hkk a1 a2
    cases hA : aK kk xs with
    | false =>
      rw [a2 hA]
      refine ⟨t', _, ?_, cG.tr H (by omega)⟩
      have e := c_rf (N := N) (X := X) (t := t') (k := Int32.ofNat 3)
      simp only [bI]
      repeat ((first | unfold cf_127 | unfold cf_127_0 | unfold cf_127_8 | unfold cf_127_17 | unfold cf_127_22 | unfold cf_127_23 | unfold cf_127_29 | unfold cf_127_34 | unfold cf_127_38 | unfold cf_127_39 | unfold cf_127_44 | unfold cf_127_53 | unfold cf_127_58 | unfold cf_127_68 | unfold cf_127_74 | unfold cf_127_78 | unfold cf_127_79 | unfold cf_127_87 | unfold cf_127_92 | unfold cf_127_98 | unfold cf_127_101 | unfold cf_127_105); try simp (disch := omega) only [ev_S, ev_C, ↓reduceIte, Nat.reduceEqDiff, Nat.reduceLeDiff, Nat.reduceAdd, Nat.reduceMul, Nat.reduceSub, reduceCtorEq, l32_0, l32_1, l32_2, l32_3, l32_4, l32_42, l32_44, e])
    | true =>
      rw [a1 hA]
      have hok : mkOk (kk + 1) xs := by
        rcases (show kk = 0 ∨ kk = 1 by omega) with rfl | rfl
        · exact Or.inl ⟨rfl, fun x hx => (kd_iff (k := 0) (by omega)).mpr (aK_i.mp hA x hx)⟩
        · exact Or.inr (Or.inl ⟨rfl, fun x hx => (kd_iff (k := 1) (by omega)).mpr (aK_i.mp hA x hx)⟩)
      obtain ⟨t2, v, b1, b2⟩ := cG.build (N := N) (X := X) hN H hok hw hd hl (by omega) (by omega) (by omega) (by omega)
      refine ⟨t2, v, ?_, b2⟩
      simp only [bI]
      repeat ((first | unfold cf_127 | unfold cf_127_0 | unfold cf_127_8 | unfold cf_127_17 | unfold cf_127_22 | unfold cf_127_23 | unfold cf_127_29 | unfold cf_127_34 | unfold cf_127_38 | unfold cf_127_39 | unfold cf_127_44 | unfold cf_127_53 | unfold cf_127_58 | unfold cf_127_68 | unfold cf_127_74 | unfold cf_127_78 | unfold cf_127_79 | unfold cf_127_87 | unfold cf_127_92 | unfold cf_127_98 | unfold cf_127_101 | unfold cf_127_105); try simp (disch := omega) only [ev_S, ev_C, ↓reduceIte, Nat.reduceEqDiff, Nat.reduceLeDiff, Nat.reduceAdd, Nat.reduceMul, Nat.reduceSub, reduceCtorEq, l32_0, l32_1, l32_2, l32_3, l32_4, l32_42, l32_44, b1])
  have LP : ∀ kk : Nat, kk ≤ 1 → cf_127_L5 N X N 0 (Int32.ofNat 0) (Int32.ofNat (kk + 1)) (Int32.ofNat 1) (Int32.ofNat 0) t' = cf_127_87 N X (Int32.ofNat 0) (Int32.ofNat (kk + 1)) (bI (aK kk xs)) t' := by
    intro kk hkk
    exact lp (fun f i (a : Int32) => cf_127_L5 N X f 0 (Int32.ofNat 0) (Int32.ofNat (kk + 1)) a (Int32.ofNat i) t') xs.length (fun i a => a = bI (aK kk (xs.take i))) (fun r => r = cf_127_87 N X (Int32.ofNat 0) (Int32.ofNat (kk + 1)) (bI (aK kk xs)) t') (by
      intro f1 i a hi hP _
      subst hP
      have hc := c_kn (N := N) (X := X) (hr i hi)
      rw [Nat.zero_add] at hc
      have n1 : ¬ xs.length ≤ i := by omega
      cases hA : aK kk (xs.take i) with
      | false =>
        right
        rw [aK_f hA]
        show cf_127_44 N X (cf_127_L5 N X f1) (Int32.ofNat 0) (Int32.ofNat (kk + 1)) (bI false) (Int32.ofNat i) t' = _
        simp only [bI]
        unfold cf_127_44 cf_127_53
        simp (disch := omega) only [ev_S, ev_C, ↓reduceIte, Nat.reduceEqDiff, Nat.reduceLeDiff, Nat.reduceAdd, Nat.reduceMul, Nat.reduceSub, reduceCtorEq, l32_0, l32_1, l32_2, l32_3, l32_4, l32_5, l32_6, l32_7, l32_8, l32_9, l32_10, l32_11, l32_12, l32_13, l32_14, l32_15, l32_16, l32_17, l32_18, l32_19, l32_20, l32_21, l32_22, l32_23, l32_24, l32_25, l32_26, l32_27, l32_28, l32_29, l32_33, l32_40, l32_41, l32_44, l32_45, l32_59, l32_61, l32_91, l32_93, l32_123, l32_125, h2, n1]
      | true =>
        left
        refine ⟨_, rfl, ?_⟩
        rw [aK_s hi, hA, Bool.true_and]
        show cf_127_44 N X (cf_127_L5 N X f1) (Int32.ofNat 0) (Int32.ofNat (kk + 1)) (bI true) (Int32.ofNat i) t' = cf_127_L5 N X f1 0 (Int32.ofNat 0) (Int32.ofNat (kk + 1)) (bI (kn xs[i] == kk)) (Int32.ofNat (i + 1)) t'
        have kl := kn_le (x := xs[i])
        generalize kn xs[i] = q at *
        have e0 : (q == kk) = decide (q = kk) := rfl
        rw [e0]
        by_cases z : q = kk
        · rw [decide_eq_true z]
          have z' : q + 1 = kk + 1 := by omega
          simp only [bI]
          repeat ((first | unfold cf_127 | unfold cf_127_0 | unfold cf_127_8 | unfold cf_127_17 | unfold cf_127_22 | unfold cf_127_23 | unfold cf_127_29 | unfold cf_127_34 | unfold cf_127_38 | unfold cf_127_39 | unfold cf_127_44 | unfold cf_127_53 | unfold cf_127_58 | unfold cf_127_68 | unfold cf_127_74 | unfold cf_127_78 | unfold cf_127_79 | unfold cf_127_87 | unfold cf_127_92 | unfold cf_127_98 | unfold cf_127_101 | unfold cf_127_105); try simp (disch := omega) only [ev_S, ev_C, ↓reduceIte, Nat.reduceEqDiff, Nat.reduceLeDiff, Nat.reduceAdd, Nat.reduceMul, Nat.reduceSub, reduceCtorEq, l32_0, l32_1, l32_2, l32_3, l32_4, l32_42, l32_44, h2, n1, hc, z'])
        · rw [decide_eq_false z]
          have z' : ¬ q + 1 = kk + 1 := by omega
          simp only [bI]
          repeat ((first | unfold cf_127 | unfold cf_127_0 | unfold cf_127_8 | unfold cf_127_17 | unfold cf_127_22 | unfold cf_127_23 | unfold cf_127_29 | unfold cf_127_34 | unfold cf_127_38 | unfold cf_127_39 | unfold cf_127_44 | unfold cf_127_53 | unfold cf_127_58 | unfold cf_127_68 | unfold cf_127_74 | unfold cf_127_78 | unfold cf_127_79 | unfold cf_127_87 | unfold cf_127_92 | unfold cf_127_98 | unfold cf_127_101 | unfold cf_127_105); try simp (disch := omega) only [ev_S, ev_C, ↓reduceIte, Nat.reduceEqDiff, Nat.reduceLeDiff, Nat.reduceAdd, Nat.reduceMul, Nat.reduceSub, reduceCtorEq, l32_0, l32_1, l32_2, l32_3, l32_4, l32_42, l32_44, h2, n1, hc, z'])) (by
      intro f1 a hP
      rw [List.take_length] at hP
      subst hP
      show cf_127_44 N X (cf_127_L5 N X f1) (Int32.ofNat 0) (Int32.ofNat (kk + 1)) _ (Int32.ofNat xs.length) t' = _
      unfold cf_127_44
      simp (disch := omega) only [ev_S, ev_C, ↓reduceIte, Nat.reduceEqDiff, Nat.reduceLeDiff, Nat.reduceAdd, Nat.reduceMul, Nat.reduceSub, reduceCtorEq, l32_0, l32_1, l32_2, l32_3, l32_4, l32_5, l32_6, l32_7, l32_8, l32_9, l32_10, l32_11, l32_12, l32_13, l32_14, l32_15, l32_16, l32_17, l32_18, l32_19, l32_20, l32_21, l32_22, l32_23, l32_24, l32_25, l32_26, l32_27, l32_28, l32_29, l32_33, l32_40, l32_41, l32_44, l32_45, l32_59, l32_61, l32_91, l32_93, l32_123, l32_125, h2]) xs.length 0 N (Int32.ofNat 1) (Nat.zero_add _) (by omega) rfl
  cases xs with
  | nil =>
    obtain ⟨t2, v, e1, e2⟩ := R87 0 (by omega) (fun _ => rfl) (fun h => by cases h)
    refine ⟨t2, v, ?_, e2⟩
    have l := LP 0 (by omega)
    have h2 : kI t' 42 3 = Int32.ofNat 0 := h2
    have l : cf_127_L5 N X N 0 (Int32.ofNat 0) (Int32.ofNat 1) (Int32.ofNat 1) (Int32.ofNat 0) t' = _ := l.trans e1
    unfold cf_127 cf_127_0 cf_127_22 cf_127_23 cf_127_34 cf_127_39
    simp (disch := omega) only [ev_S, ev_C, ↓reduceIte, Nat.reduceEqDiff, Nat.reduceLeDiff, Nat.reduceAdd, Nat.reduceMul, Nat.reduceSub, reduceCtorEq, l32_0, l32_1, l32_2, l32_3, l32_4, l32_5, l32_6, l32_7, l32_8, l32_9, l32_10, l32_11, l32_12, l32_13, l32_14, l32_15, l32_16, l32_17, l32_18, l32_19, l32_20, l32_21, l32_22, l32_23, l32_24, l32_25, l32_26, l32_27, l32_28, l32_29, l32_33, l32_40, l32_41, l32_44, l32_45, l32_59, l32_61, l32_91, l32_93, l32_123, l32_125, h2, l]
  | cons x xs =>
    have hlc : (x :: xs).length = xs.length + 1 := rfl
    have hc := c_kn (N := N) (X := X) (hr 0 (by rw [hlc]; omega))
    have hc : cf_255 N X ((kB t' 44).2 0) t' = some (t', .inl (some (.int (Int32.ofNat (kn x))))) := hc
    have n1 : ¬ (x :: xs).length ≤ 0 := by rw [hlc]; omega
    have kl := kn_le (x := x)
    have aq : ∀ q, ¬ kn x = q → aK q (x :: xs) = false := fun q hq => by
      unfold aK
      rw [List.all_cons, show (kn x == q) = decide (kn x = q) from rfl, decide_eq_false hq, Bool.false_and]
    by_cases k0 : kn x = 0
    · obtain ⟨t2, v, e1, e2⟩ := R87 0 (by omega) (fun h => if_pos h) (fun h => by
        unfold ansL
        rw [h, aq 1 (by omega)]
        rfl)
      refine ⟨t2, v, ?_, e2⟩
      have l : cf_127_L5 N X N 0 (Int32.ofNat 0) (Int32.ofNat 1) (Int32.ofNat 1) (Int32.ofNat 0) t' = _ := (LP 0 (by omega)).trans e1
      rw [k0] at hc
      unfold cf_127 cf_127_0 cf_127_8 cf_127_17 cf_127_23 cf_127_34 cf_127_39
      simp (disch := omega) only [ev_S, ev_C, ↓reduceIte, Nat.reduceEqDiff, Nat.reduceLeDiff, Nat.reduceAdd, Nat.reduceMul, Nat.reduceSub, reduceCtorEq, l32_0, l32_1, l32_2, l32_3, l32_4, l32_5, l32_6, l32_7, l32_8, l32_9, l32_10, l32_11, l32_12, l32_13, l32_14, l32_15, l32_16, l32_17, l32_18, l32_19, l32_20, l32_21, l32_22, l32_23, l32_24, l32_25, l32_26, l32_27, l32_28, l32_29, l32_33, l32_40, l32_41, l32_44, l32_45, l32_59, l32_61, l32_91, l32_93, l32_123, l32_125, h2, n1, hc, l]
    · by_cases k1 : kn x = 1
      · obtain ⟨t2, v, e1, e2⟩ := R87 1 (by omega) (fun h => by
          unfold ansL
          rw [h, aq 0 (by omega)]
          rfl) (fun h => by
          unfold ansL
          rw [h, aq 0 (by omega)]
          rfl)
        refine ⟨t2, v, ?_, e2⟩
        have l : cf_127_L5 N X N 0 (Int32.ofNat 0) (Int32.ofNat 2) (Int32.ofNat 1) (Int32.ofNat 0) t' = _ := (LP 1 (by omega)).trans e1
        rw [k1] at hc
        unfold cf_127 cf_127_0 cf_127_8 cf_127_17 cf_127_23 cf_127_29 cf_127_34 cf_127_39
        simp (disch := omega) only [ev_S, ev_C, ↓reduceIte, Nat.reduceEqDiff, Nat.reduceLeDiff, Nat.reduceAdd, Nat.reduceMul, Nat.reduceSub, reduceCtorEq, l32_0, l32_1, l32_2, l32_3, l32_4, l32_5, l32_6, l32_7, l32_8, l32_9, l32_10, l32_11, l32_12, l32_13, l32_14, l32_15, l32_16, l32_17, l32_18, l32_19, l32_20, l32_21, l32_22, l32_23, l32_24, l32_25, l32_26, l32_27, l32_28, l32_29, l32_33, l32_40, l32_41, l32_44, l32_45, l32_59, l32_61, l32_91, l32_93, l32_123, l32_125, h2, n1, hc, l]
      · have ea : ansL (x :: xs) = .inl 3 := by
          unfold ansL
          rw [aq 0 (by omega), aq 1 (by omega)]
          rfl
        rw [ea]
        refine ⟨t', _, ?_, cG.tr H (by omega)⟩
        obtain ⟨N1, hN1⟩ : ∃ N1, N = N1 + 1 := ⟨N - 1, by omega⟩
        have e := c_rf (N := N) (X := X) (t := t') (k := Int32.ofNat 3)
        have l : ∀ y, cf_127_L5 N X N 0 (Int32.ofNat 0) y (Int32.ofNat 0) (Int32.ofNat 0) t' = some (t', .inl (some (.long (rf (Int32.ofNat 3))))) := fun y => by
          have : ∀ q, cf_127_L5 N X (q + 1) 0 (Int32.ofNat 0) y (Int32.ofNat 0) (Int32.ofNat 0) t' = some (t', .inl (some (.long (rf (Int32.ofNat 3))))) := fun q => by
            show cf_127_44 N X (cf_127_L5 N X q) (Int32.ofNat 0) y (Int32.ofNat 0) (Int32.ofNat 0) t' = _
            unfold cf_127_44 cf_127_53 cf_127_87 cf_127_101 cf_127_105
            simp (disch := omega) only [ev_S, ev_C, ↓reduceIte, Nat.reduceEqDiff, Nat.reduceLeDiff, Nat.reduceAdd, Nat.reduceMul, Nat.reduceSub, reduceCtorEq, l32_0, l32_1, l32_2, l32_3, l32_4, l32_5, l32_6, l32_7, l32_8, l32_9, l32_10, l32_11, l32_12, l32_13, l32_14, l32_15, l32_16, l32_17, l32_18, l32_19, l32_20, l32_21, l32_22, l32_23, l32_24, l32_25, l32_26, l32_27, l32_28, l32_29, l32_33, l32_40, l32_41, l32_44, l32_45, l32_59, l32_61, l32_91, l32_93, l32_123, l32_125, h2, n1, e]
          rw [hN1]
          rw [hN1] at this
          exact this N1
        have q2 : ¬ kn x + 1 = 1 := by omega
        have q3 : ¬ kn x + 1 = 2 := by omega
        generalize kn x = kk at *
        unfold cf_127 cf_127_0 cf_127_8 cf_127_17 cf_127_23 cf_127_29 cf_127_38 cf_127_39
        simp (disch := omega) only [ev_S, ev_C, ↓reduceIte, Nat.reduceEqDiff, Nat.reduceLeDiff, Nat.reduceAdd, Nat.reduceMul, Nat.reduceSub, reduceCtorEq, l32_0, l32_1, l32_2, l32_3, l32_4, l32_5, l32_6, l32_7, l32_8, l32_9, l32_10, l32_11, l32_12, l32_13, l32_14, l32_15, l32_16, l32_17, l32_18, l32_19, l32_20, l32_21, l32_22, l32_23, l32_24, l32_25, l32_26, l32_27, l32_28, l32_29, l32_33, l32_40, l32_41, l32_44, l32_45, l32_59, l32_61, l32_91, l32_93, l32_123, l32_125, h2, n1, hc, q2, q3, l]
end LIC
