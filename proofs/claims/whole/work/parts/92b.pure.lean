/-! ===== PURE: atoms (3): literals, what is none ===== -/
section ATL
variable {N : Nat} {X : Nat → Option zz_C} {t t' : cS} {s s' s0 s1 s2 : mS} {b : Nat → Nat} {n p e i i0 op D D' : Nat} {code code1 code2 fl : List Ins} {vs : List (List Nat)} {cl : List Cn} {W W' : List Wt} {cu cu' : List Nat} {fs : Nat × Nat × Nat} {al : Int32} {rk : Nat → List Value → cS → kO} {Z : List (Nat × Nat)} {ah : Option (Nat × Nat)}
theorem S0_194 {F : Nat} {x1 x2 x3 x4 : Int32} : cf_S0 N X (F + 1) 194 [.int x1, .int x2, .int x3, .int x4] t = cf_194 N X (cf_S0 N X F) x1 x2 x3 x4 t := rfl
theorem S0_186 {F : Nat} {x1 : Int32} : cf_S0 N X (F + 1) 186 [.int x1] t = cf_186 N X (cf_S0 N X F) x1 t := rfl
theorem S0_188 {F : Nat} : cf_S0 N X (F + 1) 188 [] t = cf_188 N X (cf_S0 N X F) t := rfl
theorem S0_189 {F : Nat} : cf_S0 N X (F + 1) 189 [] t = cf_189 N X (cf_S0 N X F) t := rfl
theorem S0_190 {F : Nat} : cf_S0 N X (F + 1) 190 [] t = cf_190 N X (cf_S0 N X F) t := rfl
theorem S0_191 {F : Nat} : cf_S0 N X (F + 1) 191 [] t = cf_191 N X (cf_S0 N X F) t := rfl
theorem S0_192 {F : Nat} {x : Nat} : cf_S0 N X (F + 1) 192 [.ref x] t = cf_192 N X (cf_S0 N X F) x t := rfl
theorem S0_193 {F : Nat} {x1 x2 : Int32} : cf_S0 N X (F + 1) 193 [.int x1, .int x2] t = cf_193 N X (cf_S0 N X F) x1 x2 t := rfl
/-- no atom -/
theorem p_none (hN : 170000 ≤ N) (h : PE b n p e i op D code code vs cl W cu fs t s) (hk : ∀ hi : i < (TL b n).length, ¬ (TL b n)[i].1 = 2 ∧ ¬ (TL b n)[i].1 = 3 ∧ ¬ (TL b n)[i].1 = 40 ∧ ¬ (TL b n)[i].1 = 91 ∧ ((TL b n)[i].1 = 45 ∨ (TL b n)[i].1 = 33 → mf_283 N (Int32.ofNat 2) s = some (s, some (.int (Int32.ofNat 1))))) {F : Nat} : RS N b n p e i op D code W cu fs al t s (cf_190 N X (cf_S0 N X (F + 1)) t) := by
  obtain ⟨hi, e5, e6, e7, hkk, ho, he, hlt, hll⟩ := h.1.now
  obtain ⟨k1, k2, k3, k4, k5⟩ := hk hi
  have hst := st_other hN h.1.2.2.2.2.2.2.2.1 hkk ⟨k1, k2, k3, k4⟩ k5
  obtain ⟨t', a1, a2⟩ := p_wr (al := al) (N := N) (X := X) h hst
  refine Or.inr (a2 _ ?_)
  have c1 : ck (TL b n)[i] = (TL b n)[i].1 := if_neg k2
  have c2 : ¬ ck (TL b n)[i] = 2 := by omega
  have c3 : ¬ ck (TL b n)[i] = 3 := by omega
  have c4 : ¬ ck (TL b n)[i] = 4 := by
    rcases ho with z | z | z | z | z <;> omega
  have c5 : ¬ ck (TL b n)[i] = 40 := by omega
  have c6 : ¬ ck (TL b n)[i] = 91 := by omega
  have hq : cf_201 N X (Int32.ofNat 91) t = some (t', .inr ()) := by
    have a1 : cf_202 N X (Int32.ofNat 0) (Int32.ofNat 2) t = some (t', .inr ()) := a1
    have kn : cf_42 N X t = some (t, .inl (some (.int (Int32.ofNat (ck (TL b n)[i]))))) := by rw [c_kindNow, e5]
    repeat ((first | unfold cf_201 | unfold cf_201_0 | unfold cf_201_8 | unfold cf_201_12 | unfold cf_201_16 | unfold cf_201_17 | unfold cf_201_21 | unfold cf_201_27 | unfold cf_201_33 | unfold cf_201_39 | unfold cf_201_49 | unfold cf_201_53 | unfold cf_201_54 | unfold cf_201_58 | unfold cf_201_71 | unfold cf_201_77 | unfold cf_201_83 | unfold cf_201_89 | unfold cf_201_99 | unfold cf_201_106); try simp (disch := omega) only [ev_S, ev_C, ↓reduceIte, Nat.reduceEqDiff, Nat.reduceLeDiff, Nat.reduceAdd, Nat.reduceMul, Nat.reduceSub, reduceCtorEq, l32_0, l32_1, l32_2, l32_3, l32_4, l32_5, l32_10, l32_40, l32_41, l32_91, l32_93, l32_123, l32_125, kn, c6, a1])
    rfl
  unfold cf_190 cf_190_0 cf_190_7 cf_190_15
  simp (disch := omega) only [ev_S, ev_C, ↓reduceIte, Nat.reduceEqDiff, Nat.reduceLeDiff, Nat.reduceAdd, Nat.reduceMul, Nat.reduceSub, reduceCtorEq, l32_0, l32_1, l32_2, l32_3, l32_4, l32_5, l32_6, l32_7, l32_8, l32_9, l32_10, l32_11, l32_12, l32_13, l32_14, l32_15, l32_16, l32_17, l32_18, l32_19, l32_20, l32_21, l32_22, l32_23, l32_24, l32_25, l32_26, l32_27, l32_28, l32_29, l32_33, l32_40, l32_41, l32_44, l32_45, l32_59, l32_61, l32_91, l32_93, l32_123, l32_125, c_placeNow, c_kindNow, e5, e6, c2, c3, c4, c5]
  unfold cf_190_151
  rw [S0_194]
  unfold cf_194 cf_194_0
  simp (disch := omega) only [ev_S, ev_C, ↓reduceIte, Nat.reduceEqDiff, Nat.reduceLeDiff, Nat.reduceAdd, Nat.reduceMul, Nat.reduceSub, reduceCtorEq, l32_0, l32_1, l32_2, l32_3, l32_4, l32_5, l32_6, l32_7, l32_8, l32_9, l32_10, l32_11, l32_12, l32_13, l32_14, l32_15, l32_16, l32_17, l32_18, l32_19, l32_20, l32_21, l32_22, l32_23, l32_24, l32_25, l32_26, l32_27, l32_28, l32_29, l32_33, l32_40, l32_41, l32_44, l32_45, l32_59, l32_61, l32_91, l32_93, l32_123, l32_125, hq]
  rfl
theorem eff_lit {c : Ins} {k : Nat} (h : (c.1 = 6 ∨ c.1 = 8) ∧ c.2.1 = k) : eff c (List.replicate k 0 ++ cu) = some (0 :: cu) := by
  obtain ⟨o, j, r⟩ := c
  obtain ⟨h1, h2⟩ := h
  have h2 : j = k := h2
  subst h2
  rcases h1 with h1 | h1
  · have h1 : o = 6 := h1
    subst h1
    show (pop0 j (List.replicate j 0 ++ cu)).map (0 :: ·) = _
    rw [pop0_app]
    rfl
  · have h1 : o = 8 := h1
    subst h1
    show (pop0 j (List.replicate j 0 ++ cu)).map (0 :: ·) = _
    rw [pop0_app]
    rfl
/-- a literal -/
theorem p_lit {F : Nat} (hN : 170000 ≤ N) (hSX : SX N X b n p e F) (h : PE b n p e i op D code code vs cl W cu fs t s) (hwn : rWn s) (hD1 : 1 ≤ D) (hF : 10 * (10 - op) ≤ F) (hWl : W.length ≤ 6 * op + 5) (hk : ∀ hi : i < (TL b n).length, (TL b n)[i].1 = 91) : RS N b n p e i op D code W cu fs al t s (cf_190 N X (cf_S0 N X (F + 1)) t) := by
  obtain ⟨hi, e5, e6, e7, hkk, ho, he, hlt, hll⟩ := h.1.now
  have hk := hk hi
  have h9 : s.1 9 = Int32.ofNat 0 := h.1.2.2.2.2.2.2.2.2.2
  have hop := h.1.2.2.2.1
  have hst := st_listed hN h.1.2.2.2.2.2.2.2.1 hkk hk
  have hc5 : kI t 3 5 = Int32.ofNat 91 := by
    rw [e5]
    exact congrArg Int32.ofNat ((ck_sg (by decide)).mpr hk)
  have hC : cf_190 N X (cf_S0 N X (F + 1)) t = ko_call 5 (cf_194 N X (cf_S0 N X F) (Int32.ofNat 91) (Int32.ofNat 93) (Int32.ofNat 0) (Int32.ofNat 2000) t) (fun g1 v1 => co_i v1 (fun y => cf_190_163 N X (cf_S0 N X (F + 1)) (Int32.ofNat (TL b n)[i].2.2.2.1) y g1)) := by
    unfold cf_190 cf_190_0 cf_190_7 cf_190_15
    simp (disch := omega) only [ev_S, ev_C, ↓reduceIte, Nat.reduceEqDiff, Nat.reduceLeDiff, Nat.reduceAdd, Nat.reduceMul, Nat.reduceSub, reduceCtorEq, l32_0, l32_1, l32_2, l32_3, l32_4, l32_5, l32_6, l32_7, l32_8, l32_9, l32_10, l32_11, l32_12, l32_13, l32_14, l32_15, l32_16, l32_17, l32_18, l32_19, l32_20, l32_21, l32_22, l32_23, l32_24, l32_25, l32_26, l32_27, l32_28, l32_29, l32_33, l32_40, l32_41, l32_44, l32_45, l32_59, l32_61, l32_91, l32_93, l32_123, l32_125, c_placeNow, c_kindNow, hc5, e6]
    rfl
  rw [hC]
  rcases h.opn (N := N) (X := X) (c := 91) hN (by omega) with ⟨t1, s1, a1, a2, a3, a4, a5, a6⟩ | ⟨t1, s1, a1, a2, a3, a4, a5⟩
  · obtain ⟨s2, b1, b2, b3⟩ := r_wait (N := N) (k := 5) (a := 0) (p := (TL b n)[i].2.2.2.1) a5.2.2.2.2.1 (by omega) (by decide)
    obtain ⟨c1, c2⟩ := a5.wt b2 b3
    have w2 : rWn s2 := hwn.kp (a6.tr c2).2
    obtain ⟨hi2, _, _, _, hkk2, _, _, _, _⟩ := c1.1.now
    have g1 := r_isSign (N := N) (c := 93) hkk2 (by decide) (by decide)
    have h29 : s2.1 9 = Int32.ofNat 0 := c1.1.2.2.2.2.2.2.2.2.2
    have hC2 : cf_194 N X (cf_S0 N X F) (Int32.ofNat 91) (Int32.ofNat 93) (Int32.ofNat 0) (Int32.ofNat 2000) t = cf_194_5 N X (cf_S0 N X F) (Int32.ofNat 93) (Int32.ofNat 0) (Int32.ofNat 2000) t1 := by
      unfold cf_194 cf_194_0
      simp (disch := omega) only [ev_S, ev_C, ↓reduceIte, Nat.reduceEqDiff, Nat.reduceLeDiff, Nat.reduceAdd, Nat.reduceMul, Nat.reduceSub, reduceCtorEq, l32_0, l32_1, l32_2, l32_3, l32_4, l32_5, l32_6, l32_7, l32_8, l32_9, l32_10, l32_11, l32_12, l32_13, l32_14, l32_15, l32_16, l32_17, l32_18, l32_19, l32_20, l32_21, l32_22, l32_23, l32_24, l32_25, l32_26, l32_27, l32_28, l32_29, l32_33, l32_40, l32_41, l32_44, l32_45, l32_59, l32_61, l32_91, l32_93, l32_123, l32_125, a1]
    rw [hC2]
    have hQ : okQ 5 0 0 2000 := ⟨Or.inl rfl, fun z => absurd z (by decide), fun _ => ⟨rfl, rfl⟩⟩
    rcases p_list2 (al := al) (s0 := s) (i0 := i) hN hSX hQ (by omega) (by omega) (by omega) c1 w2 (by omega) (by omega) (fun z s3 he2 f => by
      rw [LL_0 h9, hst]
      have z := z hi2
      rw [if_pos rfl] at z
      rw [if_pos z] at g1
      unfold mf_286_113 mf_286_119 mf_286_126 mf_286_133 mf_286_139 mf_286_142 mf_286_146 mf_286_149 mf_286_154
      simp (disch := omega) only [ev_S, ev_P, ↓reduceIte, Nat.reduceEqDiff, Nat.reduceLeDiff, Nat.reduceAdd, Nat.reduceMul, Nat.reduceSub, reduceCtorEq, l32_0, l32_1, l32_2, l32_3, l32_4, l32_5, l32_6, l32_7, l32_8, l32_9, l32_10, l32_11, l32_12, l32_13, l32_14, l32_15, l32_16, l32_17, l32_18, l32_19, l32_20, l32_21, l32_22, l32_23, l32_24, l32_25, l32_26, l32_27, l32_28, l32_29, l32_33, l32_40, l32_41, l32_44, l32_45, l32_59, l32_61, l32_91, l32_93, l32_123, l32_125, a2, b1, h29, g1, he2]) (fun z f => by
      rw [LL_0 h9, hst]
      have z := z hi2
      rw [if_pos rfl] at z
      rw [if_neg z] at g1
      unfold mf_286_113 mf_286_119 mf_286_126 mf_286_133 mf_286_139 mf_286_153 mf_286_154
      simp (disch := omega) only [ev_S, ev_P, ↓reduceIte, Nat.reduceEqDiff, Nat.reduceLeDiff, Nat.reduceAdd, Nat.reduceMul, Nat.reduceSub, reduceCtorEq, l32_0, l32_1, l32_2, l32_3, l32_4, l32_5, l32_6, l32_7, l32_8, l32_9, l32_10, l32_11, l32_12, l32_13, l32_14, l32_15, l32_16, l32_17, l32_18, l32_19, l32_20, l32_21, l32_22, l32_23, l32_24, l32_25, l32_26, l32_27, l32_28, l32_29, l32_33, l32_40, l32_41, l32_44, l32_45, l32_59, l32_61, l32_91, l32_93, l32_123, l32_125, a2, b1, h29, g1]) with ⟨t3, s3, c3, i3, seg, vs3, cl3, k3, y1, y2, y3, y4, y5, y6, y7, y8, y9⟩ | ⟨t3, s3, k3, y1, y2, y3, y4, y5⟩
    · rw [if_pos rfl] at y1
      rw [y1]
      have hP : kP t3 2 1 = some p := y4.2.1.1
      have hp : (p = 12 ∨ p = 21) = True := eq_true y4.2.1.2.1
      obtain ⟨t4, s4, d1, d2, d3, d4, d5⟩ := y4.bo (N := N) (X := X) (c := (6, c3, 0, 0, Int32.ofNat (TL b n)[i].2.2.2.1, 0, 0)) (D' := D) (k := Int32.ofNat 20) (a := Int32.ofNat c3) (v := Int32.ofNat (TL b n)[i].2.2.2.1) (x1 := Int32.ofNat 6) (x2 := Int32.ofNat c3) (x3 := Int32.ofNat 0) (x4 := Int32.ofNat (TL b n)[i].2.2.2.1) rfl rfl (Or.inr (Or.inr (by simp))) (eff_lit ⟨Or.inl rfl, rfl⟩) (by unfold okI; simp; exact y7) (by omega) (Or.inr (by show D + (1 + (c3 - 1)) ≤ _; omega))
      have hW8 : W.length < 80 := by omega
      have m4 := y5.2.2.2.1
      have hE : E2 N 5 W.length (Int32.ofNat c3) s3 = some (s4, some (.int (Int32.ofNat 1))) := by
        show mf_290_38 N (Int32.ofNat W.length) (Int32.ofNat c3) s3 = _
        unfold mf_290_38 mf_290_52
        simp (disch := omega) only [ev_S, ev_P, ↓reduceIte, Nat.reduceEqDiff, Nat.reduceLeDiff, Nat.reduceAdd, Nat.reduceMul, Nat.reduceSub, reduceCtorEq, l32_0, l32_1, l32_2, l32_3, l32_4, l32_5, l32_6, l32_7, l32_8, l32_9, l32_10, l32_11, l32_12, l32_13, l32_14, l32_15, l32_16, l32_17, l32_18, l32_19, l32_20, l32_21, l32_22, l32_23, l32_24, l32_25, l32_26, l32_27, l32_28, l32_29, l32_33, l32_40, l32_41, l32_44, l32_45, l32_59, l32_61, l32_91, l32_93, l32_123, l32_125, m4, d2]
      refine Or.inl ⟨t4, s4, k3, i3, seg ++ [_], vs3, cl3, ?_, by omega, by omega, fun f => y9 s4 hE f, by rw [← List.append_assoc]; exact d3, (a6.tr c2).tr (y8.tr d4)⟩
      show cf_190_163 N X (cf_S0 N X (F + 1)) (Int32.ofNat (TL b n)[i].2.2.2.1) (Int32.ofNat c3) t3 = _
      unfold cf_190_163 cf_190_175 cf_190_176
      simp (disch := omega) only [ev_S, ev_C, ↓reduceIte, Nat.reduceEqDiff, Nat.reduceLeDiff, Nat.reduceAdd, Nat.reduceMul, Nat.reduceSub, reduceCtorEq, l32_0, l32_1, l32_2, l32_3, l32_4, l32_5, l32_6, l32_7, l32_8, l32_9, l32_10, l32_11, l32_12, l32_13, l32_14, l32_15, l32_16, l32_17, l32_18, l32_19, l32_20, l32_21, l32_22, l32_23, l32_24, l32_25, l32_26, l32_27, l32_28, l32_29, l32_33, l32_40, l32_41, l32_44, l32_45, l32_59, l32_61, l32_91, l32_93, l32_123, l32_125, hP, hp, d1]
    · rw [if_pos rfl] at y1
      exact Or.inr ⟨t3, s3, k3, by rw [y1]; rfl, y2, fun f => y5 f, y3, (a6.tr c2).pre y4⟩
  · obtain ⟨x, y, v1, v2, v3, v4, v5, v6, v7⟩ := a3
    obtain ⟨s2, b1, b2, b3, b4, b5⟩ := r_waitF (N := N) (k := 5) (a := 0) (q := (TL b n)[i].2.2.2.1) h a5 (by omega) (by decide)
    refine Or.inr ⟨t1, s2, 2, ?_, by omega, fun f => ?_, pF.post ⟨x, y, v1, v2, v3, v4, v5, v6, v7⟩ b3 b4, a4.post b2 (a4.2.2.1.kp b5)⟩
    · unfold cf_194 cf_194_0
      simp (disch := omega) only [ev_S, ev_C, ↓reduceIte, Nat.reduceEqDiff, Nat.reduceLeDiff, Nat.reduceAdd, Nat.reduceMul, Nat.reduceSub, reduceCtorEq, l32_0, l32_1, l32_2, l32_3, l32_4, l32_5, l32_6, l32_7, l32_8, l32_9, l32_10, l32_11, l32_12, l32_13, l32_14, l32_15, l32_16, l32_17, l32_18, l32_19, l32_20, l32_21, l32_22, l32_23, l32_24, l32_25, l32_26, l32_27, l32_28, l32_29, l32_33, l32_40, l32_41, l32_44, l32_45, l32_59, l32_61, l32_91, l32_93, l32_123, l32_125, a1]
      rfl
    · rw [show f + 2 = (f + 1) + 1 by omega, LL_0 h9, hst]
      have h29 : s2.1 9 = Int32.ofNat x := b3.trans v6
      unfold mf_286_113 mf_286_119 mf_286_126 mf_286_153 mf_286_154
      simp (disch := omega) only [ev_S, ev_P, ↓reduceIte, Nat.reduceEqDiff, Nat.reduceLeDiff, Nat.reduceAdd, Nat.reduceMul, Nat.reduceSub, reduceCtorEq, l32_0, l32_1, l32_2, l32_3, l32_4, l32_5, l32_6, l32_7, l32_8, l32_9, l32_10, l32_11, l32_12, l32_13, l32_14, l32_15, l32_16, l32_17, l32_18, l32_19, l32_20, l32_21, l32_22, l32_23, l32_24, l32_25, l32_26, l32_27, l32_28, l32_29, l32_33, l32_40, l32_41, l32_44, l32_45, l32_59, l32_61, l32_91, l32_93, l32_123, l32_125, a2, b1, h29]
      exact LL_f (N := N) (b3.trans v6) ⟨v1, v2⟩
end ATL
