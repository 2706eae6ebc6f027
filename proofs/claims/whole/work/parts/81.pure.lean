/-! ===== PURE: a number is told (the reference) ===== -/
section NUR
variable {N : Nat} {s : mS} {l : List Int32}
theorem p10 {i : Nat} (h : i ≤ 9) : 1 ≤ 10 ^ i ∧ 10 ^ i ≤ 1000000000 := by
  have h1 : (10 : Nat) ^ i ≤ 10 ^ 9 := Nat.pow_le_pow_right (by decide) h
  have e : (10 : Nat) ^ 9 = 1000000000 := by decide
  have h2 : 0 < (10 : Nat) ^ i := Nat.pow_pos (by decide)
  omega
theorem r_by {w n : Nat} (hw : w ≤ 2147483648) (hn : n ≤ 9) (h1 : w / 10 ^ n ≤ 9) (h2 : ∀ j, j < n → 9 < w / 10 ^ j) : ∀ (d i q : Nat), i + d = n → mf_349_L2 N (q + (d + 1)) 0 (Int64.ofNat w) (Int64.ofNat (10 ^ i)) s = mf_349_L1 N N 0 (Int64.ofNat w) (Int64.ofNat (10 ^ n)) s := by
  intro d
  induction d with
  | zero =>
    intro i q hi
    have hi : i = n := hi
    subst hi
    have hp := p10 hn
    have hq : w / 10 ^ i ≤ w := Nat.div_le_self _ _
    show mf_349_21 N (mf_349_L2 N q) (Int64.ofNat w) (Int64.ofNat (10 ^ i)) s = _
    generalize 10 ^ i = b at *
    generalize hv : w / b = v at *
    unfold mf_349_21
    simp (disch := omega) only [ev_S, ev_P, ↓reduceIte, Nat.reduceEqDiff, Nat.reduceLeDiff, Nat.reduceAdd, Nat.reduceMul, Nat.reduceSub, reduceCtorEq, l32_0, l32_1, l32_2, l32_3, l32_4, l32_5, l32_6, l32_7, l32_8, l32_9, l32_10, l64_0, l64_9, i64div, i64eq', lg_le, hv]
  | succ d ih =>
    intro i q hi
    have hp := p10 (i := i) (by omega)
    have hq : w / 10 ^ i ≤ w := Nat.div_le_self _ _
    have h9 := h2 i (by omega)
    have ih := ih (i + 1) q (by omega)
    rw [← ih, Nat.pow_succ]
    show mf_349_21 N (mf_349_L2 N (q + (d + 1))) (Int64.ofNat w) (Int64.ofNat (10 ^ i)) s = _
    rw [Nat.mul_comm]
    generalize 10 ^ i = b at *
    generalize hv : w / b = v at *
    unfold mf_349_21 mf_349_32
    simp (disch := omega) only [ev_S, ev_P, ↓reduceIte, Nat.reduceEqDiff, Nat.reduceLeDiff, Nat.reduceAdd, Nat.reduceMul, Nat.reduceSub, reduceCtorEq, l32_0, l32_1, l32_2, l32_3, l32_4, l32_5, l32_6, l32_7, l32_8, l32_9, l32_10, l64_0, l64_9, l64_10, i64div, i64eq', i64mul, lg_le, hv]
theorem dg_eq' {v : Nat} : Int32.ofNat (48 + (v - v / 10 * 10)) = dg v := by
  unfold dg
  rw [show v - v / 10 * 10 = v % 10 by omega]
theorem r_dig {w : Nat} (hw : w ≤ 2147483648) : ∀ (i q : Nat) (s : mS) (l : List Int32), i ≤ 9 → rOut s l → l.length < 1900000000 - i → ∃ s', mf_349_L1 N (q + (i + 2)) 0 (Int64.ofNat w) (Int64.ofNat (10 ^ i)) s = some (s', none) ∧ rOut s' (l ++ (dgP w i).map nb) ∧ oM s s' := by
  intro i
  induction i with
  | zero =>
    intro q s l hi h hl
    obtain ⟨s1, a1, a2, a3⟩ := r_says (N := N) (c := dg w) h (by omega)
    refine ⟨s1, ?_, a2, a3⟩
    have e : mf_349_L1 N (q + 1) 0 (Int64.ofNat w) (Int64.ofNat 0) s1 = some (s1, none) := by
      show mf_349_43 N (mf_349_L1 N q) (Int64.ofNat w) (Int64.ofNat 0) s1 = _
      unfold mf_349_43 mf_349_78
      simp (disch := omega) only [ev_S, ev_P, ↓reduceIte, Nat.reduceEqDiff, Nat.reduceLeDiff, Nat.reduceAdd, Nat.reduceMul, Nat.reduceSub, reduceCtorEq, l32_0, l32_1, l32_2, l32_3, l32_4, l32_5, l32_6, l32_7, l32_8, l32_9, l32_10, l64_0, lg_le]
    show mf_349_43 N (mf_349_L1 N (q + 1)) (Int64.ofNat w) (Int64.ofNat 1) s = _
    have e9 := dg_eq' (v := w)
    have e1 : w / 1 = w := Nat.div_one w
    have e2 : 1 / 10 = 0 := rfl
    unfold mf_349_43 mf_349_50 mf_349_67
    simp (disch := omega) only [ev_S, ev_P, ↓reduceIte, Nat.reduceEqDiff, Nat.reduceLeDiff, Nat.reduceAdd, Nat.reduceMul, Nat.reduceSub, reduceCtorEq, l32_0, l32_1, l32_2, l32_3, l32_4, l32_5, l32_6, l32_7, l32_8, l32_9, l32_10, l64_0, l64_1, l64_10, l64_48, i64div, i64eq', i64mul, i64sub, i64add, lg_le, e1, e2, Int64.toInt32_ofNat', e9, a1, e]
  | succ i ih =>
    intro q s l hi h hl
    obtain ⟨s1, a1, a2, a3⟩ := r_says (N := N) (c := dg (w / 10 ^ (i + 1))) h (by omega)
    obtain ⟨s', b1, b2, b3⟩ := ih q s1 _ (by omega) a2 (by rw [List.length_append]; show l.length + 1 < _; omega)
    refine ⟨s', ?_, by rw [List.append_assoc] at b2; exact b2, a3.tr b3⟩
    rw [← b1]
    have hp := p10 hi
    have hp' := p10 (i := i) (by omega)
    have hq : w / 10 ^ (i + 1) ≤ w := Nat.div_le_self _ _
    have e10 : 10 ^ (i + 1) / 10 = 10 ^ i := by
      rw [Nat.pow_succ]
      exact Nat.mul_div_cancel _ (by decide)
    have e9 := dg_eq' (v := w / 10 ^ (i + 1))
    show mf_349_43 N (mf_349_L1 N (q + (i + 2))) (Int64.ofNat w) (Int64.ofNat (10 ^ (i + 1))) s = _
    generalize 10 ^ (i + 1) = b at *
    generalize 10 ^ i = b' at *
    generalize hv : w / b = v at *
    unfold mf_349_43 mf_349_50 mf_349_67
    simp (disch := omega) only [ev_S, ev_P, ↓reduceIte, Nat.reduceEqDiff, Nat.reduceLeDiff, Nat.reduceAdd, Nat.reduceMul, Nat.reduceSub, reduceCtorEq, l32_0, l32_1, l32_2, l32_3, l32_4, l32_5, l32_6, l32_7, l32_8, l32_9, l32_10, l64_0, l64_1, l64_10, l64_48, i64div, i64eq', i64mul, i64sub, i64add, lg_le, hv, e10, Int64.toInt32_ofNat', e9, a1]
theorem r_numW {w : Nat} (hN : 170000 ≤ N) (h : rOut s l) (hl : l.length < 1800000000) (hw : w ≤ 2147483648) : ∃ s', mf_349_L2 N N 0 (Int64.ofNat w) 1 s = some (s', none) ∧ rOut s' (l ++ ((dgL 9 w).reverse).map nb) ∧ oM s s' := by
  have e10 : (10 : Nat) ^ (9 + 1) = 10000000000 := by decide
  have hlen := dgL_len 9 w
  obtain ⟨t1, t2⟩ := dgL_top 9 w (by omega)
  have hr := dgL_rev 9 w (by omega)
  obtain ⟨n, hn⟩ : ∃ n, (dgL 9 w).length = n + 1 := ⟨(dgL 9 w).length - 1, by omega⟩
  rw [hn, Nat.add_sub_cancel] at t1 t2 hr
  have b := r_by (N := N) (s := s) (w := w) (n := n) hw (by omega) t1 t2 n 0 (N - (n + 1)) (Nat.zero_add _)
  rw [show N - (n + 1) + (n + 1) = N by omega] at b
  obtain ⟨s', c1, c2, c3⟩ := r_dig (N := N) hw n (N - (n + 2)) s l (by omega) h (by omega)
  rw [show N - (n + 2) + (n + 2) = N by omega] at c1
  refine ⟨s', ?_, by rw [hr]; exact c2, c3⟩
  rw [← c1, ← b]
  rfl
theorem lg_ge0 {z : Int32} : (0 ≤ lg_cmp (Int32.toInt64 z) 0) ↔ ¬ z < 0 := by
  unfold lg_cmp
  have e1 : (0 : Int64).toInt = 0 := by decide
  have e2 : (0 : Int32).toInt = 0 := by decide
  have k1 : (Int32.toInt64 z > 0) ↔ 0 < z.toInt := by
    show (0 : Int64) < Int32.toInt64 z ↔ _
    rw [Int64.lt_iff_toInt_lt, Int32.toInt_toInt64, e1]
  have k2 : (z < 0) ↔ z.toInt < 0 := by rw [Int32.lt_iff_toInt_lt, e2]
  have k3 : (Int32.toInt64 z = 0) ↔ z.toInt = 0 := by
    constructor
    · intro h
      have := congrArg Int64.toInt h
      rw [Int32.toInt_toInt64, e1] at this
      exact this
    · intro h
      refine Int64.toInt.inj ?_
      rw [Int32.toInt_toInt64, e1, h]
  by_cases c : Int32.toInt64 z > 0
  · rw [if_pos c]
    have := k1.mp c
    exact ⟨fun _ q => by have := k2.mp q; omega, fun _ => by decide⟩
  · rw [if_neg c]
    by_cases d : Int32.toInt64 z = 0
    · rw [if_pos d]
      have := k3.mp d
      exact ⟨fun _ q => by have := k2.mp q; omega, fun _ => by decide⟩
    · rw [if_neg d]
      refine ⟨fun q => absurd q (by decide), fun q => ?_⟩
      have h1 := fun w => c (k1.mpr w)
      have h2 := fun w => d (k3.mpr w)
      have h3 := fun w => q (k2.mpr w)
      exfalso
      by_cases a : 0 < z.toInt
      · exact h1 a
      · by_cases b : z.toInt = 0
        · exact h2 b
        · exact h3 (by omega)
theorem r_number {z : Int32} (hN : 170000 ≤ N) (h : rOut s l) (hl : l.length < 1700000000) : ∃ s', mf_349 N z s = some (s', none) ∧ rOut s' (l ++ (numL z).map nb) ∧ oM s s' := by
  have hw := wN_le z
  by_cases c : z < 0
  · obtain ⟨s1, a1, a2, a3⟩ := r_says (N := N) (c := 45) h (by omega)
    obtain ⟨s', b1, b2, b3⟩ := r_numW (N := N) (w := wN z) hN a2 (by rw [List.length_append]; show l.length + 1 < _; omega) hw
    refine ⟨s', ?_, ?_, a3.tr b3⟩
    · rw [← b1]
      unfold mf_349 mf_349_0 mf_349_9
      rw [if_neg (fun q => lg_ge0.mp q c), a1]
      show mf_349_15 N (Int32.toInt64 z) s1 = _
      unfold mf_349_15 mf_349_18
      rw [neg64 c]
    · have e : numL z = [45] ++ (dgL 9 (wN z)).reverse := by
        unfold numL
        rw [if_pos c]
      rw [List.append_assoc] at b2
      rw [e, List.map_append]
      exact b2
  · obtain ⟨s', b1, b2, b3⟩ := r_numW (N := N) (w := wN z) hN h (by omega) hw
    refine ⟨s', ?_, ?_, b3⟩
    · rw [← b1]
      unfold mf_349 mf_349_0 mf_349_18
      rw [if_pos (lg_ge0.mpr c), pos64 c]
    · have e : numL z = (dgL 9 (wN z)).reverse := by
        unfold numL
        rw [if_neg c]
        rfl
      rw [e]
      exact b2
end NUR
