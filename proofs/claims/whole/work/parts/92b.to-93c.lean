-- ### 92b.pure.lean.txt
section
/-! ===== PURE: atoms (3): literals, what is none ===== -/
section ATL
variable {N : Nat} {X : Nat → Option zz_C} {t t' : cS} {s s' s0 s1 s2 : mS} {b : Nat → Nat} {n p e i i0 op D D' : Nat} {code code1 code2 fl : List Ins} {vs : List (List Nat)} {cl : List Cn} {W W' : List Wt} {cu cu' : List Nat} {fs : Nat × Nat × Nat} {al : Int32} {rk : Nat → List Value → cS → kO} {Z : List (Nat × Nat)} {ah : Option (Nat × Nat)}
theorem S0_194 {F : Nat} {x1 x2 x3 x4 : Int32} : cf_S0 N X (F + 1) 194 [.int x1, .int x2, .int x3, .int x4] t = cf_194 N X (cf_S0 N X F) x1 x2 x3 x4 t := rfl
theorem S0_186 {F : Nat} {x1 : Int32} : cf_S0 N X (F + 1) 186 [.int x1] t = cf_186 N X (cf_S0 N X F) x1 t := rfl
theorem S0_188 {F : Nat} : cf_S0 N X (F + 1) 188 [] t = cf_188 N X (cf_S0 N X F) t := rfl
theorem S0_189 {F : Nat} : cf_S0 N X (F + 1) 189 [] t = cf_189 N X (cf_S0 N X F) t := rfl
theorem S0_190 {F : Nat} : cf_S0 N X (F + 1) 190 [] t = cf_190 N X (cf_S0 N X F) t := rfl
theorem S0_191 {F : Nat} : cf_S0 N X (F + 1) 191 [] t = cf_191 N X (cf_S0 N X F) t := rfl
theorem S0_192 {F : Nat} {x : Nat} : cf_S0 N X (F + 1) 192 [.ref x] t = cf_192 N X (cf_S0 N X F) x t := rfl
theorem S0_193 {F : Nat} {x1 x2 : Int32} : cf_S0 N X (F + 1) 193 [.int x1, .int x2] t = cf_193 N X (cf_S0 N X F) x1 x2 t := rfl
/-- no atom -/
theorem p_none (hN : 170000 ≤ N) (h : PE b n p e i op D code code vs cl W cu fs t s) (hk : ∀ hi : i < (TL b n).length, ¬ (TL b n)[i].1 = 2 ∧ ¬ (TL b n)[i].1 = 3 ∧ ¬ (TL b n)[i].1 = 40 ∧ ¬ (TL b n)[i].1 = 91 ∧ ((TL b n)[i].1 = 45 ∨ (TL b n)[i].1 = 33 → mf_283 N (Int32.ofNat 2) s = some (s, some (.int (Int32.ofNat 1))))) {F : Nat} : RS N b n p e i op D code W cu fs al t s (cf_190 N X (cf_S0 N X (F + 1)) t) := by
  obtain ⟨hi, e5, e6, e7, hkk, ho, he, hlt, hll⟩ := h.1.now
  obtain ⟨k1, k2, k3, k4, k5⟩ := hk hi
  have hst := st_other hN h.1.2.2.2.2.2.2.2.1 hkk ⟨k1, k2, k3, k4⟩ k5
  obtain ⟨t', a1, a2⟩ := p_wr (al := al) (N := N) (X := X) h hst
  refine Or.inr (a2 _ ?_)
  have c1 : ck (TL b n)[i] = (TL b n)[i].1 := if_neg k2
  have c2 : ¬ ck (TL b n)[i] = 2 := by omega
  have c3 : ¬ ck (TL b n)[i] = 3 := by omega
  have c4 : ¬ ck (TL b n)[i] = 4 := by
    rcases ho with z | z | z | z | z <;> omega
  have c5 : ¬ ck (TL b n)[i] = 40 := by omega
  have c6 : ¬ ck (TL b n)[i] = 91 := by omega
  have hq : cf_201 N X (Int32.ofNat 91) t = some (t', .inr ()) := by
    have a1 : cf_202 N X (Int32.ofNat 0) (Int32.ofNat 2) t = some (t', .inr ()) := a1
    have kn : cf_42 N X t = some (t, .inl (some (.int (Int32.ofNat (ck (TL b n)[i]))))) := by rw [c_kindNow, e5]
    repeat ((first | unfold cf_201 | unfold cf_201_0 | unfold cf_201_8 | unfold cf_201_12 | unfold cf_201_16 | unfold cf_201_17 | unfold cf_201_21 | unfold cf_201_27 | unfold cf_201_33 | unfold cf_201_39 | unfold cf_201_49 | unfold cf_201_53 | unfold cf_201_54 | unfold cf_201_58 | unfold cf_201_71 | unfold cf_201_77 | unfold cf_201_83 | unfold cf_201_89 | unfold cf_201_99 | unfold cf_201_106); try simp (disch := omega) only [ev_S, ev_C, ↓reduceIte, Nat.reduceEqDiff, Nat.reduceLeDiff, Nat.reduceAdd, Nat.reduceMul, Nat.reduceSub, reduceCtorEq, l32_0, l32_1, l32_2, l32_3, l32_4, l32_5, l32_10, l32_40, l32_41, l32_91, l32_93, l32_123, l32_125, kn, c6, a1])
    rfl
  unfold cf_190 cf_190_0 cf_190_7 cf_190_15
  simp (disch := omega) only [ev_S, ev_C, ↓reduceIte, Nat.reduceEqDiff, Nat.reduceLeDiff, Nat.reduceAdd, Nat.reduceMul, Nat.reduceSub, reduceCtorEq, l32_0, l32_1, l32_2, l32_3, l32_4, l32_5, l32_6, l32_7, l32_8, l32_9, l32_10, l32_11, l32_12, l32_13, l32_14, l32_15, l32_16, l32_17, l32_18, l32_19, l32_20, l32_21, l32_22, l32_23, l32_24, l32_25, l32_26, l32_27, l32_28, l32_29, l32_33, l32_40, l32_41, l32_44, l32_45, l32_59, l32_61, l32_91, l32_93, l32_123, l32_125, c_placeNow, c_kindNow, e5, e6, c2, c3, c4, c5]
  unfold cf_190_151
  rw [S0_194]
  unfold cf_194 cf_194_0
  simp (disch := omega) only [ev_S, ev_C, ↓reduceIte, Nat.reduceEqDiff, Nat.reduceLeDiff, Nat.reduceAdd, Nat.reduceMul, Nat.reduceSub, reduceCtorEq, l32_0, l32_1, l32_2, l32_3, l32_4, l32_5, l32_6, l32_7, l32_8, l32_9, l32_10, l32_11, l32_12, l32_13, l32_14, l32_15, l32_16, l32_17, l32_18, l32_19, l32_20, l32_21, l32_22, l32_23, l32_24, l32_25, l32_26, l32_27, l32_28, l32_29, l32_33, l32_40, l32_41, l32_44, l32_45, l32_59, l32_61, l32_91, l32_93, l32_123, l32_125, hq]
  rfl
theorem eff_lit {c : Ins} {k : Nat} (h : (c.1 = 6 ∨ c.1 = 8) ∧ c.2.1 = k) : eff c (List.replicate k 0 ++ cu) = some (0 :: cu) := by
  obtain ⟨o, j, r⟩ := c
  obtain ⟨h1, h2⟩ := h
  have h2 : j = k := h2
  subst h2
  rcases h1 with h1 | h1
  · have h1 : o = 6 := h1
    subst h1
    show (pop0 j (List.replicate j 0 ++ cu)).map (0 :: ·) = _
    rw [pop0_app]
    rfl
  · have h1 : o = 8 := h1
    subst h1
    show (pop0 j (List.replicate j 0 ++ cu)).map (0 :: ·) = _
    rw [pop0_app]
    rfl
/-- a literal -/
theorem p_lit {F : Nat} (hN : 170000 ≤ N) (hSX : SX N X b n p e F) (h : PE b n p e i op D code code vs cl W cu fs t s) (hwn : rWn s) (hD1 : 1 ≤ D) (hF : 10 * (10 - op) ≤ F) (hWl : W.length ≤ 6 * op + 5) (hk : ∀ hi : i < (TL b n).length, (TL b n)[i].1 = 91) : RS N b n p e i op D code W cu fs al t s (cf_190 N X (cf_S0 N X (F + 1)) t) := by
  obtain ⟨hi, e5, e6, e7, hkk, ho, he, hlt, hll⟩ := h.1.now
  have hk := hk hi
  have h9 : s.1 9 = Int32.ofNat 0 := h.1.2.2.2.2.2.2.2.2.2
  have hop := h.1.2.2.2.1
  have hst := st_listed hN h.1.2.2.2.2.2.2.2.1 hkk hk
  have hc5 : kI t 3 5 = Int32.ofNat 91 := by
    rw [e5]
    exact congrArg Int32.ofNat ((ck_sg (by decide)).mpr hk)
  have hC : cf_190 N X (cf_S0 N X (F + 1)) t = ko_call 5 (cf_194 N X (cf_S0 N X F) (Int32.ofNat 91) (Int32.ofNat 93) (Int32.ofNat 0) (Int32.ofNat 2000) t) (fun g1 v1 => co_i v1 (fun y => cf_190_163 N X (cf_S0 N X (F + 1)) (Int32.ofNat (TL b n)[i].2.2.2.1) y g1)) := by
    unfold cf_190 cf_190_0 cf_190_7 cf_190_15
    simp (disch := omega) only [ev_S, ev_C, ↓reduceIte, Nat.reduceEqDiff, Nat.reduceLeDiff, Nat.reduceAdd, Nat.reduceMul, Nat.reduceSub, reduceCtorEq, l32_0, l32_1, l32_2, l32_3, l32_4, l32_5, l32_6, l32_7, l32_8, l32_9, l32_10, l32_11, l32_12, l32_13, l32_14, l32_15, l32_16, l32_17, l32_18, l32_19, l32_20, l32_21, l32_22, l32_23, l32_24, l32_25, l32_26, l32_27, l32_28, l32_29, l32_33, l32_40, l32_41, l32_44, l32_45, l32_59, l32_61, l32_91, l32_93, l32_123, l32_125, c_placeNow, c_kindNow, hc5, e6]
    rfl
  rw [hC]
  rcases h.opn (N := N) (X := X) (c := 91) hN (by omega) with ⟨t1, s1, a1, a2, a3, a4, a5, a6⟩ | ⟨t1, s1, a1, a2, a3, a4, a5⟩
  · obtain ⟨s2, b1, b2, b3⟩ := r_wait (N := N) (k := 5) (a := 0) (p := (TL b n)[i].2.2.2.1) a5.2.2.2.2.1 (by omega) (by decide)
    obtain ⟨c1, c2⟩ := a5.wt b2 b3
    have w2 : rWn s2 := hwn.kp (a6.tr c2).2
    obtain ⟨hi2, _, _, _, hkk2, _, _, _, _⟩ := c1.1.now
    have g1 := r_isSign (N := N) (c := 93) hkk2 (by decide) (by decide)
    have h29 : s2.1 9 = Int32.ofNat 0 := c1.1.2.2.2.2.2.2.2.2.2
    have hC2 : cf_194 N X (cf_S0 N X F) (Int32.ofNat 91) (Int32.ofNat 93) (Int32.ofNat 0) (Int32.ofNat 2000) t = cf_194_5 N X (cf_S0 N X F) (Int32.ofNat 93) (Int32.ofNat 0) (Int32.ofNat 2000) t1 := by
      unfold cf_194 cf_194_0
      simp (disch := omega) only [ev_S, ev_C, ↓reduceIte, Nat.reduceEqDiff, Nat.reduceLeDiff, Nat.reduceAdd, Nat.reduceMul, Nat.reduceSub, reduceCtorEq, l32_0, l32_1, l32_2, l32_3, l32_4, l32_5, l32_6, l32_7, l32_8, l32_9, l32_10, l32_11, l32_12, l32_13, l32_14, l32_15, l32_16, l32_17, l32_18, l32_19, l32_20, l32_21, l32_22, l32_23, l32_24, l32_25, l32_26, l32_27, l32_28, l32_29, l32_33, l32_40, l32_41, l32_44, l32_45, l32_59, l32_61, l32_91, l32_93, l32_123, l32_125, a1]
    rw [hC2]
    have hQ : okQ 5 0 0 2000 := ⟨Or.inl rfl, fun z => absurd z (by decide), fun _ => ⟨rfl, rfl⟩⟩
    rcases p_list2 (al := al) (s0 := s) (i0 := i) hN hSX hQ (by omega) (by omega) (by omega) c1 w2 (by omega) (by omega) (fun z s3 he2 f => by
      rw [LL_0 h9, hst]
      have z := z hi2
      rw [if_pos rfl] at z
      rw [if_pos z] at g1
      unfold mf_286_113 mf_286_119 mf_286_126 mf_286_133 mf_286_139 mf_286_142 mf_286_146 mf_286_149 mf_286_154
      simp (disch := omega) only [ev_S, ev_P, ↓reduceIte, Nat.reduceEqDiff, Nat.reduceLeDiff, Nat.reduceAdd, Nat.reduceMul, Nat.reduceSub, reduceCtorEq, l32_0, l32_1, l32_2, l32_3, l32_4, l32_5, l32_6, l32_7, l32_8, l32_9, l32_10, l32_11, l32_12, l32_13, l32_14, l32_15, l32_16, l32_17, l32_18, l32_19, l32_20, l32_21, l32_22, l32_23, l32_24, l32_25, l32_26, l32_27, l32_28, l32_29, l32_33, l32_40, l32_41, l32_44, l32_45, l32_59, l32_61, l32_91, l32_93, l32_123, l32_125, a2, b1, h29, g1, he2]) (fun z f => by
      rw [LL_0 h9, hst]
      have z := z hi2
      rw [if_pos rfl] at z
      rw [if_neg z] at g1
      unfold mf_286_113 mf_286_119 mf_286_126 mf_286_133 mf_286_139 mf_286_153 mf_286_154
      simp (disch := omega) only [ev_S, ev_P, ↓reduceIte, Nat.reduceEqDiff, Nat.reduceLeDiff, Nat.reduceAdd, Nat.reduceMul, Nat.reduceSub, reduceCtorEq, l32_0, l32_1, l32_2, l32_3, l32_4, l32_5, l32_6, l32_7, l32_8, l32_9, l32_10, l32_11, l32_12, l32_13, l32_14, l32_15, l32_16, l32_17, l32_18, l32_19, l32_20, l32_21, l32_22, l32_23, l32_24, l32_25, l32_26, l32_27, l32_28, l32_29, l32_33, l32_40, l32_41, l32_44, l32_45, l32_59, l32_61, l32_91, l32_93, l32_123, l32_125, a2, b1, h29, g1]) with ⟨t3, s3, c3, i3, seg, vs3, cl3, k3, y1, y2, y3, y4, y5, y6, y7, y8, y9⟩ | ⟨t3, s3, k3, y1, y2, y3, y4, y5⟩
    · rw [if_pos rfl] at y1
      rw [y1]
      have hP : kP t3 2 1 = some p := y4.2.1.1
      have hp : (p = 12 ∨ p = 21) = True := eq_true y4.2.1.2.1
      obtain ⟨t4, s4, d1, d2, d3, d4, d5⟩ := y4.bo (N := N) (X := X) (c := (6, c3, 0, 0, Int32.ofNat (TL b n)[i].2.2.2.1, 0, 0)) (D' := D) (k := Int32.ofNat 20) (a := Int32.ofNat c3) (v := Int32.ofNat (TL b n)[i].2.2.2.1) (x1 := Int32.ofNat 6) (x2 := Int32.ofNat c3) (x3 := Int32.ofNat 0) (x4 := Int32.ofNat (TL b n)[i].2.2.2.1) rfl rfl (Or.inr (Or.inr (by simp))) (eff_lit ⟨Or.inl rfl, rfl⟩) (by unfold okI; simp; exact y7) (by omega) (Or.inr (by show D + (1 + (c3 - 1)) ≤ _; omega))
      have hW8 : W.length < 80 := by omega
      have m4 := y5.2.2.2.1
      have hE : E2 N 5 W.length (Int32.ofNat c3) s3 = some (s4, some (.int (Int32.ofNat 1))) := by
        show mf_290_38 N (Int32.ofNat W.length) (Int32.ofNat c3) s3 = _
        unfold mf_290_38 mf_290_52
        simp (disch := omega) only [ev_S, ev_P, ↓reduceIte, Nat.reduceEqDiff, Nat.reduceLeDiff, Nat.reduceAdd, Nat.reduceMul, Nat.reduceSub, reduceCtorEq, l32_0, l32_1, l32_2, l32_3, l32_4, l32_5, l32_6, l32_7, l32_8, l32_9, l32_10, l32_11, l32_12, l32_13, l32_14, l32_15, l32_16, l32_17, l32_18, l32_19, l32_20, l32_21, l32_22, l32_23, l32_24, l32_25, l32_26, l32_27, l32_28, l32_29, l32_33, l32_40, l32_41, l32_44, l32_45, l32_59, l32_61, l32_91, l32_93, l32_123, l32_125, m4, d2]
      refine Or.inl ⟨t4, s4, k3, i3, seg ++ [_], vs3, cl3, ?_, by omega, by omega, fun f => y9 s4 hE f, by rw [← List.append_assoc]; exact d3, (a6.tr c2).tr (y8.tr d4)⟩
      show cf_190_163 N X (cf_S0 N X (F + 1)) (Int32.ofNat (TL b n)[i].2.2.2.1) (Int32.ofNat c3) t3 = _
      unfold cf_190_163 cf_190_175 cf_190_176
      simp (disch := omega) only [ev_S, ev_C, ↓reduceIte, Nat.reduceEqDiff, Nat.reduceLeDiff, Nat.reduceAdd, Nat.reduceMul, Nat.reduceSub, reduceCtorEq, l32_0, l32_1, l32_2, l32_3, l32_4, l32_5, l32_6, l32_7, l32_8, l32_9, l32_10, l32_11, l32_12, l32_13, l32_14, l32_15, l32_16, l32_17, l32_18, l32_19, l32_20, l32_21, l32_22, l32_23, l32_24, l32_25, l32_26, l32_27, l32_28, l32_29, l32_33, l32_40, l32_41, l32_44, l32_45, l32_59, l32_61, l32_91, l32_93, l32_123, l32_125, hP, hp, d1]
    · rw [if_pos rfl] at y1
      exact Or.inr ⟨t3, s3, k3, by rw [y1]; rfl, y2, fun f => y5 f, y3, (a6.tr c2).pre y4⟩
  · obtain ⟨x, y, v1, v2, v3, v4, v5, v6, v7⟩ := a3
    obtain ⟨s2, b1, b2, b3, b4, b5⟩ := r_waitF (N := N) (k := 5) (a := 0) (q := (TL b n)[i].2.2.2.1) h a5 (by omega) (by decide)
    refine Or.inr ⟨t1, s2, 2, ?_, by omega, fun f => ?_, pF.post ⟨x, y, v1, v2, v3, v4, v5, v6, v7⟩ b3 b4, a4.post b2 (a4.2.2.1.kp b5)⟩
    · unfold cf_194 cf_194_0
      simp (disch := omega) only [ev_S, ev_C, ↓reduceIte, Nat.reduceEqDiff, Nat.reduceLeDiff, Nat.reduceAdd, Nat.reduceMul, Nat.reduceSub, reduceCtorEq, l32_0, l32_1, l32_2, l32_3, l32_4, l32_5, l32_6, l32_7, l32_8, l32_9, l32_10, l32_11, l32_12, l32_13, l32_14, l32_15, l32_16, l32_17, l32_18, l32_19, l32_20, l32_21, l32_22, l32_23, l32_24, l32_25, l32_26, l32_27, l32_28, l32_29, l32_33, l32_40, l32_41, l32_44, l32_45, l32_59, l32_61, l32_91, l32_93, l32_123, l32_125, a1]
      rfl
    · rw [show f + 2 = (f + 1) + 1 by omega, LL_0 h9, hst]
      have h29 : s2.1 9 = Int32.ofNat x := b3.trans v6
      unfold mf_286_113 mf_286_119 mf_286_126 mf_286_153 mf_286_154
      simp (disch := omega) only [ev_S, ev_P, ↓reduceIte, Nat.reduceEqDiff, Nat.reduceLeDiff, Nat.reduceAdd, Nat.reduceMul, Nat.reduceSub, reduceCtorEq, l32_0, l32_1, l32_2, l32_3, l32_4, l32_5, l32_6, l32_7, l32_8, l32_9, l32_10, l32_11, l32_12, l32_13, l32_14, l32_15, l32_16, l32_17, l32_18, l32_19, l32_20, l32_21, l32_22, l32_23, l32_24, l32_25, l32_26, l32_27, l32_28, l32_29, l32_33, l32_40, l32_41, l32_44, l32_45, l32_59, l32_61, l32_91, l32_93, l32_123, l32_125, a2, b1, h29]
      exact LL_f (N := N) (b3.trans v6) ⟨v1, v2⟩
end ATL
end
-- ### 92c.pure.lean.txt
section
/-! ===== PURE: calls ===== -/
section CLL
variable {N : Nat} {X : Nat → Option zz_C} {t t' : cS} {s s' s0 s1 s2 : mS} {b : Nat → Nat} {n p e i i0 op D D' : Nat} {code code1 code2 fl : List Ins} {vs : List (List Nat)} {cl : List Cn} {W W' : List Wt} {cu cu' : List Nat} {fs : Nat × Nat × Nat} {al : Int32} {rk : Nat → List Value → cS → kO} {Z : List (Nat × Nat)} {ah : Option (Nat × Nat)}
/-- which kind of bracket waits behind a word -/
def bgK (x1 : Int32) (q a : Nat) : Prop := (x1 = -Int32.ofNat 1 ∧ q = 6 ∧ a = 4294967284) ∨ (x1 = Int32.ofNat (a + 11) ∧ a < 28 ∧ q = 7) ∨ (x1 = Int32.ofNat (a + 11) ∧ (a = 28 ∨ a = 29) ∧ q = 8)
theorem p_beg {x1 : Int32} {q a : Nat} (hN : 170000 ≤ N) (h : PE b n p e i op D code code vs cl W cu fs t s) (hb : bgK x1 q a) (hWl : W.length ≤ 6 * op + 5) (hk : ∀ hi : i < (TL b n).length, (TL b n)[i].1 = 3) : ∃ hi : i < (TL b n).length, (∃ t1 t2 s3, cf_46 N X t = some (t1, .inl none) ∧ cf_201 N X (Int32.ofNat 40) t1 = some (t2, .inl none) ∧ op < 10 ∧ PE b n p e (i + 2) (op + 1) (D + 2) code code vs cl (W ++ [(q, a, 0, (TL b n)[i].2.2.2.1, Int64.ofNat (evB 27 (TL b n)[i].2.2.1), (TL b n)[i].2.2.2.1)]) cu fs t2 s3 ∧ mf_287 N x1 (Int32.ofNat (TL b n)[i].2.2.2.1) s = (if q = 8 then mf_287_95 N s3 else mf_287_151 N s3) ∧ FR p e t t2 s s3) ∨ (∃ t1 t2 s3, cf_46 N X t = some (t1, .inl none) ∧ cf_201 N X (Int32.ofNat 40) t1 = some (t2, .inr ()) ∧ mf_287 N x1 (Int32.ofNat (TL b n)[i].2.2.2.1) s = some (s3, some (.int (Int32.ofNat 0))) ∧ pF t2 s3 ∧ FX p e t t2 s s3) := by
  obtain ⟨hi, e5, e6, e7, hkk, ho, he, hlt, hll⟩ := h.1.now
  have hk := hk hi
  have hop := h.1.2.2.2.1
  have hv : s.2.1 7 = Int64.ofNat (evB 27 (TL b n)[i].2.2.1) := by
    obtain ⟨y1, y2, y3 | y3 | y3 | y3 | y3⟩ := hkk
    · omega
    · omega
    · omega
    · exact y3.2.2.1
    · omega
  have hx5 : x1 - Int32.ofNat 11 = Int32.ofNat a := by
    rcases hb with ⟨z1, z2, z3⟩ | ⟨z1, z2, z3⟩ | ⟨z1, z2, z3⟩
    · rw [z1, z3]
      decide
    · rw [z1, ev_sub (by omega), Nat.add_sub_cancel]
    · rw [z1, ev_sub (by omega), Nat.add_sub_cancel]
  refine ⟨hi, ?_⟩
  obtain ⟨t1, s1, a1, a2, a3, a4, a5⟩ := h.adv (N := N) (X := X) hN (fun _ => by omega)
  rcases a3.opn (N := N) (X := X) (c := 40) hN (by omega) with ⟨t2, s2, b1, b2, b3, b4, b5, b6⟩ | ⟨t2, s2, b1, b2, b3, b4, b5⟩
  · have h29 : s2.1 9 = Int32.ofNat 0 := b5.1.2.2.2.2.2.2.2.2.2
    have hq8 : q ≤ 8 ∧ 6 ≤ q := by rcases hb with ⟨z1, z2, z3⟩ | ⟨z1, z2, z3⟩ | ⟨z1, z2, z3⟩ <;> omega
    obtain ⟨s3, v0, y0, c1, c2, c3⟩ := r_waitN (N := N) (k := q) (a := a) (q := (TL b n)[i].2.2.2.1) b5.2.2.2.2.1 (by omega) hq8.1
    obtain ⟨d1, d2⟩ := b5.wt c2 c3
    obtain ⟨f1, f2⟩ := d1.2.2.2.2.1.nm (v := Int64.ofNat (evB 27 (TL b n)[i].2.2.1)) (x := (TL b n)[i].2.2.2.1)
    obtain ⟨g1, g2⟩ := d1.wt f1 f2
    obtain ⟨q0, q1, -⟩ := w_last c2
    refine Or.inl ⟨t1, t2, _, a1, b1, b4, g1, ?_, FR.tr ⟨a4, a5⟩ (b6.tr (d2.tr g2))⟩
    have hW8 : W.length < 80 := by omega
    unfold mf_287 mf_287_0 mf_287_15
    simp (disch := omega) only [ev_S, ev_P, ↓reduceIte, Nat.reduceEqDiff, Nat.reduceLeDiff, Nat.reduceAdd, Nat.reduceMul, Nat.reduceSub, reduceCtorEq, l32_0, l32_1, l32_2, l32_3, l32_4, l32_5, l32_6, l32_7, l32_8, l32_9, l32_10, l32_11, l32_12, l32_13, l32_14, l32_15, l32_16, l32_17, l32_18, l32_19, l32_20, l32_21, l32_22, l32_23, l32_24, l32_25, l32_26, l32_27, l32_28, l32_29, l32_33, l32_40, l32_41, l32_44, l32_45, l32_59, l32_61, l32_91, l32_93, l32_123, l32_125, a2, b2, hv, hx5]
    rcases hb with ⟨z1, z2, z3⟩ | ⟨z1, z2, z3⟩ | ⟨z1, z2, z3⟩
    · subst z1 z2
      have r1 : (Int32.ofNat 0 ≤ -Int32.ofNat 1) = False := by decide
      have r2 : (-Int32.ofNat 1 < Int32.ofNat 0) = True := by decide
      unfold mf_287_21 mf_287_30 mf_287_35 mf_287_54 mf_287_60
      simp (disch := omega) only [ev_S, ev_P, ↓reduceIte, Nat.reduceEqDiff, Nat.reduceLeDiff, Nat.reduceAdd, Nat.reduceMul, Nat.reduceSub, reduceCtorEq, l32_0, l32_1, l32_2, l32_3, l32_4, l32_5, l32_6, l32_7, l32_8, l32_9, l32_10, l32_11, l32_12, l32_13, l32_14, l32_15, l32_16, l32_17, l32_18, l32_19, l32_20, l32_21, l32_22, l32_23, l32_24, l32_25, l32_26, l32_27, l32_28, l32_29, l32_33, l32_40, l32_41, l32_44, l32_45, l32_59, l32_61, l32_91, l32_93, l32_123, l32_125, h29, r1, r2, c1, q0]
    · subst z1 z3
      unfold mf_287_21 mf_287_30 mf_287_40 mf_287_52 mf_287_54 mf_287_60 mf_287_88
      simp (disch := omega) only [ev_S, ev_P, ↓reduceIte, Nat.reduceEqDiff, Nat.reduceLeDiff, Nat.reduceAdd, Nat.reduceMul, Nat.reduceSub, reduceCtorEq, l32_0, l32_1, l32_2, l32_3, l32_4, l32_5, l32_6, l32_7, l32_8, l32_9, l32_10, l32_11, l32_12, l32_13, l32_14, l32_15, l32_16, l32_17, l32_18, l32_19, l32_20, l32_21, l32_22, l32_23, l32_24, l32_25, l32_26, l32_27, l32_28, l32_29, l32_33, l32_40, l32_41, l32_44, l32_45, l32_59, l32_61, l32_91, l32_93, l32_123, l32_125, h29, c1, q0, z2]
    · subst z1 z3
      have z4 : 28 ≤ a ∧ a < 30 := by omega
      unfold mf_287_21 mf_287_30 mf_287_40 mf_287_47 mf_287_54 mf_287_60 mf_287_88
      simp (disch := omega) only [ev_S, ev_P, ↓reduceIte, Nat.reduceEqDiff, Nat.reduceLeDiff, Nat.reduceAdd, Nat.reduceMul, Nat.reduceSub, reduceCtorEq, l32_0, l32_1, l32_2, l32_3, l32_4, l32_5, l32_6, l32_7, l32_8, l32_9, l32_10, l32_11, l32_12, l32_13, l32_14, l32_15, l32_16, l32_17, l32_18, l32_19, l32_20, l32_21, l32_22, l32_23, l32_24, l32_25, l32_26, l32_27, l32_28, l32_29, l32_33, l32_40, l32_41, l32_44, l32_45, l32_59, l32_61, l32_91, l32_93, l32_123, l32_125, h29, c1, q0]
  · obtain ⟨x, y, v1, v2, v3, v4, v5, v6, v7⟩ := b3
    refine Or.inr ⟨t1, t2, s2, a1, b1, ?_, ⟨x, y, v1, v2, v3, v4, v5, v6, v7⟩, FR.pre ⟨a4, a5⟩ b4⟩
    unfold mf_287 mf_287_0 mf_287_15
    simp (disch := omega) only [ev_S, ev_P, ↓reduceIte, Nat.reduceEqDiff, Nat.reduceLeDiff, Nat.reduceAdd, Nat.reduceMul, Nat.reduceSub, reduceCtorEq, l32_0, l32_1, l32_2, l32_3, l32_4, l32_5, l32_6, l32_7, l32_8, l32_9, l32_10, l32_11, l32_12, l32_13, l32_14, l32_15, l32_16, l32_17, l32_18, l32_19, l32_20, l32_21, l32_22, l32_23, l32_24, l32_25, l32_26, l32_27, l32_28, l32_29, l32_33, l32_40, l32_41, l32_44, l32_45, l32_59, l32_61, l32_91, l32_93, l32_123, l32_125, a2, b2, hv, hx5]
    unfold mf_287_21 mf_287_28
    simp (disch := omega) only [ev_S, ev_P, ↓reduceIte, Nat.reduceEqDiff, Nat.reduceLeDiff, Nat.reduceAdd, Nat.reduceMul, Nat.reduceSub, reduceCtorEq, l32_0, l32_1, l32_2, l32_3, l32_4, l32_5, l32_6, l32_7, l32_8, l32_9, l32_10, l32_11, l32_12, l32_13, l32_14, l32_15, l32_16, l32_17, l32_18, l32_19, l32_20, l32_21, l32_22, l32_23, l32_24, l32_25, l32_26, l32_27, l32_28, l32_29, l32_33, l32_40, l32_41, l32_44, l32_45, l32_59, l32_61, l32_91, l32_93, l32_123, l32_125, v6]
theorem posC_e {l : List Ins} : posC (code ++ l) code.length = cx code := (posC_app (Nat.le_refl _)).trans posC_len
theorem posR_len : posR code code.length = rl code := by
  unfold posR rl
  rw [List.take_length]
theorem posR_e {l : List Ins} : posR (code ++ l) code.length = rl code := (posR_app (Nat.le_refl _)).trans posR_len
/-- a function's call -/
theorem p_call {F : Nat} (hN : 170000 ≤ N) (hSX : SX N X b n p e F) (h : PE b n p e i op D code code vs cl W cu fs t s) (hwn : rWn s) (hF : 10 * (10 - op) ≤ F) (hWl : W.length ≤ 6 * op + 5) (hk : ∀ hi : i < (TL b n).length, ck (TL b n)[i] = 3 ∧ ∀ hj : i + 1 < (TL b n).length, (TL b n)[i + 1].1 = 40) : RS N b n p e i op (D + 1) code W cu fs al t s (cf_191 N X (cf_S0 N X (F + 1)) t) := by
  obtain ⟨hi, e5, e6, e7, hkk, ho, he, hlt, hll⟩ := h.1.now
  obtain ⟨hk, hk2⟩ := hk hi
  have h9 : s.1 9 = Int32.ofNat 0 := h.1.2.2.2.2.2.2.2.2.2
  have hop := h.1.2.2.2.1
  have hpl := TL_at hi
  have hn16 : n ≤ 1600 := h.1.2.2.2.2.1
  obtain ⟨k1, k2⟩ := ck3.mp hk
  obtain ⟨hj, hj2⟩ := TL_next hi (by omega)
  have hk2 := hk2 hj
  have bh := r_behind hN h.1.2.2.2.2.2.1 hkk he
  rw [← hj2, if_pos hk2] at bh
  have hst := st_name (u := 1) hN h.1.2.2.2.2.2.2.2.1 hkk k1 k2 bh (by omega)
  rw [if_pos rfl] at hst
  have hoL : okL (TL b n)[i].2.2.1 ∧ (TL b n)[i].2.2.1.length ≤ 8 := by
    rcases ho with z | z | z | z | z
    · omega
    · omega
    · omega
    · exact z.2
    · omega
  have hc3 : kL t 3 7 = Int64.ofNat (evB 32 (TL b n)[i].2.2.1) := by
    rw [e7]
    unfold c3
    rw [if_pos k1, k2]
  have hC : ∀ t1, cf_46 N X t = some (t1, .inl none) → cf_191 N X (cf_S0 N X (F + 1)) t = ko_call 5 (cf_194 N X (cf_S0 N X F) (Int32.ofNat 40) (Int32.ofNat 41) (Int32.ofNat 0) (Int32.ofNat 2000) t1) (fun g1 v1 => co_i v1 (fun y => cf_191_35 N X (cf_S0 N X (F + 1)) (Int64.ofNat (evB 32 (TL b n)[i].2.2.1)) (Int32.ofNat (TL b n)[i].2.2.2.1) y g1)) := fun t1 a1 => by
    unfold cf_191 cf_191_0 cf_191_7 cf_191_15
    simp (disch := omega) only [ev_S, ev_C, ↓reduceIte, Nat.reduceEqDiff, Nat.reduceLeDiff, Nat.reduceAdd, Nat.reduceMul, Nat.reduceSub, reduceCtorEq, l32_0, l32_1, l32_2, l32_3, l32_4, l32_5, l32_6, l32_7, l32_8, l32_9, l32_10, l32_11, l32_12, l32_13, l32_14, l32_15, l32_16, l32_17, l32_18, l32_19, l32_20, l32_21, l32_22, l32_23, l32_24, l32_25, l32_26, l32_27, l32_28, l32_29, l32_33, l32_40, l32_41, l32_44, l32_45, l32_59, l32_61, l32_91, l32_93, l32_123, l32_125, c_valueNow, c_placeNow, hc3, e6, a1]
    rfl
  obtain ⟨hi0, (⟨t1, t2, s3, a1, a2, a3, a4, a5, a6⟩ | ⟨t1, t2, s3, a1, a2, a3, a4, a5⟩)⟩ := p_beg (N := N) (X := X) hN h (Or.inl ⟨rfl, rfl, rfl⟩) hWl (fun _ => k1)
  · rw [hC t1 a1]
    rw [if_neg (by decide)] at a5
    have w3 : rWn s3 := hwn.kp a6.2
    obtain ⟨hi2, _, _, _, hkk2, _, _, _, _⟩ := a4.1.now
    have g1 := r_isSign (N := N) (c := 41) hkk2 (by decide) (by decide)
    have hC2 : cf_194 N X (cf_S0 N X F) (Int32.ofNat 40) (Int32.ofNat 41) (Int32.ofNat 0) (Int32.ofNat 2000) t1 = cf_194_5 N X (cf_S0 N X F) (Int32.ofNat 41) (Int32.ofNat 0) (Int32.ofNat 2000) t2 := by
      unfold cf_194 cf_194_0
      simp (disch := omega) only [ev_S, ev_C, ↓reduceIte, Nat.reduceEqDiff, Nat.reduceLeDiff, Nat.reduceAdd, Nat.reduceMul, Nat.reduceSub, reduceCtorEq, l32_0, l32_1, l32_2, l32_3, l32_4, l32_5, l32_6, l32_7, l32_8, l32_9, l32_10, l32_11, l32_12, l32_13, l32_14, l32_15, l32_16, l32_17, l32_18, l32_19, l32_20, l32_21, l32_22, l32_23, l32_24, l32_25, l32_26, l32_27, l32_28, l32_29, l32_33, l32_40, l32_41, l32_44, l32_45, l32_59, l32_61, l32_91, l32_93, l32_123, l32_125, a2]
    rw [hC2]
    have hQ : okQ 6 4294967284 0 2000 := ⟨Or.inr (Or.inl rfl), fun z => absurd z (by decide), fun _ => ⟨rfl, rfl⟩⟩
    rcases p_list2 (al := al) (s0 := s) (i0 := i) hN hSX hQ (by omega) (by omega) (by omega) a4 w3 (by omega) (by omega) (fun z s4 he2 f => by
      rw [LL_0 h9, hst]
      have z := z hi2
      rw [if_neg (by decide)] at z
      rw [if_pos z] at g1
      unfold mf_286_180 mf_286_186
      rw [a5]
      unfold mf_287_151 mf_287_157 mf_287_160 mf_287_164 mf_287_167 mf_287_172
      simp (disch := omega) only [ev_S, ev_P, ↓reduceIte, Nat.reduceEqDiff, Nat.reduceLeDiff, Nat.reduceAdd, Nat.reduceMul, Nat.reduceSub, reduceCtorEq, l32_0, l32_1, l32_2, l32_3, l32_4, l32_5, l32_6, l32_7, l32_8, l32_9, l32_10, l32_11, l32_12, l32_13, l32_14, l32_15, l32_16, l32_17, l32_18, l32_19, l32_20, l32_21, l32_22, l32_23, l32_24, l32_25, l32_26, l32_27, l32_28, l32_29, l32_33, l32_40, l32_41, l32_44, l32_45, l32_59, l32_61, l32_91, l32_93, l32_123, l32_125, g1, he2]) (fun z f => by
      rw [LL_0 h9, hst]
      have z := z hi2
      rw [if_neg (by decide)] at z
      rw [if_neg z] at g1
      unfold mf_286_180 mf_286_186
      rw [a5]
      unfold mf_287_151 mf_287_157 mf_287_171 mf_287_172
      simp (disch := omega) only [ev_S, ev_P, ↓reduceIte, Nat.reduceEqDiff, Nat.reduceLeDiff, Nat.reduceAdd, Nat.reduceMul, Nat.reduceSub, reduceCtorEq, l32_0, l32_1, l32_2, l32_3, l32_4, l32_5, l32_6, l32_7, l32_8, l32_9, l32_10, l32_11, l32_12, l32_13, l32_14, l32_15, l32_16, l32_17, l32_18, l32_19, l32_20, l32_21, l32_22, l32_23, l32_24, l32_25, l32_26, l32_27, l32_28, l32_29, l32_33, l32_40, l32_41, l32_44, l32_45, l32_59, l32_61, l32_91, l32_93, l32_123, l32_125, g1]) with ⟨t3, s4, c3, i3, seg, vs3, cl3, k3, y1, y2, y3, y4, y5, y6, y7, y8, y9⟩ | ⟨t3, s4, k3, y1, y2, y3, y4, y5⟩
    · rw [if_neg (by decide)] at y1
      rw [y1]
      have hP : kP t3 2 1 = some p := y4.2.1.1
      have hp : (p = 12 ∨ p = 21) = True := eq_true y4.2.1.2.1
      have y4c := y4.2.2.2.2.2.2.2.2.2.2.2.1
      obtain ⟨t5, s5, d1, d2, d3, d4, d5⟩ := (y4.cps (cp := cl3 ++ [((code ++ seg).length, 0, (TL b n)[i].2.2.1, (TL b n)[i].2.2.2.1, c3)]) (fun x hx => List.mem_append_left _ hx)).bo (N := N) (X := X) (js := fs.2.1) (c := (9, unk, c3, 0, Int32.ofNat (TL b n)[i].2.2.2.1, 0, 0)) (cu' := 0 :: cu) (D' := D + 2) (k := Int32.ofNat 28) (a := Int32.ofNat 0) (v := Int32.ofNat (TL b n)[i].2.2.2.1) (x1 := Int32.ofNat 9) (x2 := Int32.ofNat 0) (x3 := Int32.ofNat c3) (x4 := Int32.ofNat (TL b n)[i].2.2.2.1) (fun _ => ⟨_, List.mem_append_right _ (List.mem_singleton.mpr rfl), rfl⟩) (Or.inl ⟨rfl, by unfold noJ; simp⟩) rfl rfl (Or.inl rfl) (by show (pop0 c3 (List.replicate c3 0 ++ cu)).map (0 :: ·) = _; rw [pop0_app]; rfl) (by unfold okI; simp; exact y7) (by omega) (Or.inr (by show D + 2 + (1 + (c3 - 1)) ≤ _; omega))
      have ex : ((code ++ seg).length, 0, (TL b n)[i].2.2.1, (TL b n)[i].2.2.2.1, c3).1 < ((code ++ seg) ++ [(9, unk, c3, 0, Int32.ofNat (TL b n)[i].2.2.2.1, 0, 0)] : List Ins).length := by
        rw [List.length_append (bs := [_])]
        show (code ++ seg).length < (code ++ seg).length + 1
        omega
      obtain ⟨t6, s6, f1, f2, f3, f4⟩ := d3.nt (N := N) (X := X) (x := ((code ++ seg).length, 0, (TL b n)[i].2.2.1, (TL b n)[i].2.2.2.1, c3)) (D' := D + 1) ⟨ex, hoL.1, hoL.2, by show (TL b n)[i].2.2.2.1 ≤ 1600; omega, by show c3 ≤ 2000; omega, by rw [getD_last], Or.inl ⟨by rw [getD_last], rfl⟩⟩ (by omega) (by rw [rl_app (code := code ++ seg), rl_one]; show cl3.length + 1 ≤ rl (code ++ seg) + 1; omega)
      have f1 : cf_198 N X (Int32.ofNat (posC ((code ++ seg) ++ [(9, unk, c3, 0, Int32.ofNat (TL b n)[i].2.2.2.1, 0, 0)]) (code ++ seg).length + 0)) (Int64.ofNat (evB 32 (TL b n)[i].2.2.1)) (Int32.ofNat (TL b n)[i].2.2.2.1) (Int32.ofNat c3) t5 = some (t6, .inl none) := f1
      have f2 : mf_273 N (Int32.ofNat (ob0 e + posR ((code ++ seg) ++ [(9, unk, c3, 0, Int32.ofNat (TL b n)[i].2.2.2.1, 0, 0)]) (code ++ seg).length + 0)) (Int64.ofNat (evB 27 (TL b n)[i].2.2.1)) (Int32.ofNat c3) (Int32.ofNat (TL b n)[i].2.2.2.1) s5 = some (s6, none) := f2
      rw [posC_e, Nat.add_zero] at f1
      rw [posR_e, Nat.add_zero] at f2
      have hW8 : W.length < 80 := by omega
      obtain ⟨m1, m2, m3, m4, m5⟩ := y5
      have m6 := m5 (by show 6 ≤ 6; omega)
      have n42 : s5.2.2.2 42 W.length = Int64.ofNat (evB 27 (TL b n)[i].2.2.1) := by rw [d5.2.2.2.1 42]; exact m6.1
      have n43 : s5.2.2.1 43 W.length = Int32.ofNat (TL b n)[i].2.2.2.1 := by rw [d5.2.2.1 43 (by decide)]; exact m6.2
      have h49 : s4.1 9 = Int32.ofNat 0 := y4.1.2.2.2.2.2.2.2.2.2
      have hE : E2 N 6 W.length (Int32.ofNat c3) s4 = some (s6, some (.int (Int32.ofNat 1))) := by
        show mf_290_114 N (Int32.ofNat W.length) (Int32.ofNat c3) s4 = _
        unfold mf_290_114 mf_290_123 mf_290_157 mf_290_168 mf_290_183 mf_290_199 mf_290_273
        simp (disch := omega) only [ev_S, ev_P, ↓reduceIte, Nat.reduceEqDiff, Nat.reduceLeDiff, Nat.reduceAdd, Nat.reduceMul, Nat.reduceSub, reduceCtorEq, l32_0, l32_1, l32_2, l32_3, l32_4, l32_5, l32_6, l32_7, l32_8, l32_9, l32_10, l32_11, l32_12, l32_13, l32_14, l32_15, l32_16, l32_17, l32_18, l32_19, l32_20, l32_21, l32_22, l32_23, l32_24, l32_25, l32_26, l32_27, l32_28, l32_29, l32_33, l32_40, l32_41, l32_44, l32_45, l32_59, l32_61, l32_91, l32_93, l32_123, l32_125, h49, m1, m4, d2, n42, n43, f2]
      refine Or.inl ⟨t6, s6, k3, i3, seg ++ [_], vs3, cl3 ++ [_], ?_, by omega, by omega, fun f => y9 s6 hE f, by rw [← List.append_assoc]; exact f3, a6.tr (y8.tr (d4.tr f4))⟩
      show cf_191_35 N X (cf_S0 N X (F + 1)) (Int64.ofNat (evB 32 (TL b n)[i].2.2.1)) (Int32.ofNat (TL b n)[i].2.2.2.1) (Int32.ofNat c3) t3 = _
      unfold cf_191_35 cf_191_49 cf_191_56
      simp (disch := omega) only [ev_S, ev_C, ↓reduceIte, Nat.reduceEqDiff, Nat.reduceLeDiff, Nat.reduceAdd, Nat.reduceMul, Nat.reduceSub, reduceCtorEq, l32_0, l32_1, l32_2, l32_3, l32_4, l32_5, l32_6, l32_7, l32_8, l32_9, l32_10, l32_11, l32_12, l32_13, l32_14, l32_15, l32_16, l32_17, l32_18, l32_19, l32_20, l32_21, l32_22, l32_23, l32_24, l32_25, l32_26, l32_27, l32_28, l32_29, l32_33, l32_40, l32_41, l32_44, l32_45, l32_59, l32_61, l32_91, l32_93, l32_123, l32_125, hP, hp, d1, f1]
    · rw [if_neg (by decide)] at y1
      exact Or.inr ⟨t3, s4, k3, by rw [y1]; rfl, y2, fun f => y5 f, y3, a6.pre y4⟩
  · rw [hC t1 a1]
    obtain ⟨x, y, v1, v2, v3, v4, v5, v6, v7⟩ := a4
    refine Or.inr ⟨t2, s3, 2, ?_, by omega, fun f => ?_, ⟨x, y, v1, v2, v3, v4, v5, v6, v7⟩, a5⟩
    · unfold cf_194 cf_194_0
      simp (disch := omega) only [ev_S, ev_C, ↓reduceIte, Nat.reduceEqDiff, Nat.reduceLeDiff, Nat.reduceAdd, Nat.reduceMul, Nat.reduceSub, reduceCtorEq, l32_0, l32_1, l32_2, l32_3, l32_4, l32_5, l32_6, l32_7, l32_8, l32_9, l32_10, l32_11, l32_12, l32_13, l32_14, l32_15, l32_16, l32_17, l32_18, l32_19, l32_20, l32_21, l32_22, l32_23, l32_24, l32_25, l32_26, l32_27, l32_28, l32_29, l32_33, l32_40, l32_41, l32_44, l32_45, l32_59, l32_61, l32_91, l32_93, l32_123, l32_125, a2]
      rfl
    · rw [show f + 2 = (f + 1) + 1 by omega, LL_0 h9, hst]
      unfold mf_286_180 mf_286_186
      simp (disch := omega) only [ev_S, ev_P, ↓reduceIte, Nat.reduceEqDiff, Nat.reduceLeDiff, Nat.reduceAdd, Nat.reduceMul, Nat.reduceSub, reduceCtorEq, l32_0, l32_1, l32_2, l32_3, l32_4, l32_5, l32_6, l32_7, l32_8, l32_9, l32_10, l32_11, l32_12, l32_13, l32_14, l32_15, l32_16, l32_17, l32_18, l32_19, l32_20, l32_21, l32_22, l32_23, l32_24, l32_25, l32_26, l32_27, l32_28, l32_29, l32_33, l32_40, l32_41, l32_44, l32_45, l32_59, l32_61, l32_91, l32_93, l32_123, l32_125, a3]
      exact LL_f (N := N) v6 ⟨v1, v2⟩
end CLL
end
-- ### 92d.pure.lean.txt
section
/-! ===== PURE: built-ins ===== -/
section BLT
variable {N : Nat} {X : Nat → Option zz_C} {t t' : cS} {s s' s0 s1 s2 : mS} {b : Nat → Nat} {n p e i i0 op D D' : Nat} {code code1 code2 fl : List Ins} {vs : List (List Nat)} {cl : List Cn} {W W' : List Wt} {cu cu' : List Nat} {fs : Nat × Nat × Nat} {al : Int32} {rk : Nat → List Value → cS → kO} {Z : List (Nat × Nat)} {ah : Option (Nat × Nat)}
theorem lg_ge {a b : Nat} (ha : a < 9223372036854775808) (hb : b < 9223372036854775808) : (Int32.ofNat 0 ≤ lg_cmp (Int64.ofNat a) (Int64.ofNat b)) = (b ≤ a) := by
  have h := lg_lt0 ha hb
  have h2 : (Int32.ofNat 0 ≤ lg_cmp (Int64.ofNat a) (Int64.ofNat b)) ↔ ¬ (lg_cmp (Int64.ofNat a) (Int64.ofNat b) < Int32.ofNat 0) := Int32.not_lt.symm
  rw [propext h2, h]
  exact propext Nat.not_lt
theorem ev_b32 {a : Int32} {g : Int32 → kO} : co_b (some a) g = g a := rfl
/-- the word that stands there -/
theorem c_word {w : Nat} (hX : oX N X) (h : pR b n i op t s) (hk : ∀ hi : i < (TL b n).length, (TL b n)[i].1 = 3 ∧ wix (TL b n)[i].2.2.1 = some w) : cf_199 N X t = some (t, .inl (some (.ref (zz_out + (w + 1))))) ∧ kI t 3 5 = Int32.ofNat 4 ∧ kL t 3 7 = Int64.ofNat w ∧ w < 41 := by
  obtain ⟨hi, e5, e6, e7, hkk, ho, he, hlt, hll⟩ := h.now
  obtain ⟨k1, k2⟩ := hk hi
  have hw := (wix_some k2).1
  have hv : kL t 3 7 = Int64.ofNat w := by
    rw [e7]
    unfold c3
    rw [if_pos k1, k2]
    exact i64of32 (by omega)
  have h4 : kI t 3 5 = Int32.ofNat 4 := by
    rw [e5]
    exact congrArg Int32.ofNat (ck4.mpr (Or.inl ⟨k1, w, k2⟩))
  refine ⟨?_, h4, hv, hw⟩
  have hl := hX.1
  have hr := (hX.2.1 w hw).1
  have z0 : (0 : Int64) = Int64.ofNat 0 := rfl
  have q1 := lg_lt0 (a := w) (b := 0) (by omega) (by omega)
  have q2 := lg_ge (a := w) (b := 41) (by omega) (by omega)
  have q3 : Int32.toInt64 (Int32.ofNat 41) = Int64.ofNat 41 := i64of32 (by omega)
  unfold cf_199 cf_199_0 cf_199_7 cf_199_10 cf_248 cf_248_0 cf_248_6 cf_248_16 cf_248_28
  simp (disch := omega) only [ev_S, ev_C, ↓reduceIte, Nat.reduceEqDiff, Nat.reduceLeDiff, Nat.reduceAdd, Nat.reduceMul, Nat.reduceSub, reduceCtorEq, l32_0, l32_1, l32_2, l32_3, l32_4, l32_5, l32_6, l32_7, l32_8, l32_9, l32_10, l32_11, l32_12, l32_13, l32_14, l32_15, l32_16, l32_17, l32_18, l32_19, l32_20, l32_21, l32_22, l32_23, l32_24, l32_25, l32_26, l32_27, l32_28, l32_29, l32_33, l32_40, l32_41, l32_44, l32_45, l32_59, l32_61, l32_91, l32_93, l32_123, l32_125, c_valueNow, hv, z0, q1, hl, ev_b32, q3, q2, Int64.toInt32_ofNat', hr]
theorem ac_eq {a b : Nat} : (zz_ac .eq a b = true) = (a = b) := by
  unfold zz_ac
  simp
theorem ac_ne {a b : Nat} : (zz_ac .ne a b = true) = ¬ (a = b) := by
  unfold zz_ac
  simp
/-- a built-in but each and fold -/
theorem p_blt {F w : Nat} (hN : 170000 ≤ N) (hX : oX N X) (hY : oY X) (hSX : SX N X b n p e F) (h : PE b n p e i op D code code vs cl W cu fs t s) (hwn : rWn s) (hF : 10 * (10 - op) ≤ F) (hWl : W.length ≤ 6 * op + 5) (hk : ∀ hi : i < (TL b n).length, (TL b n)[i].1 = 3 ∧ wix (TL b n)[i].2.2.1 = some w) (hw : 11 ≤ w ∧ w < 39) : RS N b n p e i op (D + 1) code W cu fs al t s (cf_192 N X (cf_S0 N X (F + 1)) (zz_out + (w + 1)) t) := by
  obtain ⟨hi, e5, e6, e7, hkk, ho, he, hlt, hll⟩ := h.1.now
  obtain ⟨-, -, hcv, -⟩ := c_word (N := N) (X := X) hX h.1 hk
  obtain ⟨k1, k2⟩ := hk hi
  have h9 : s.1 9 = Int32.ofNat 0 := h.1.2.2.2.2.2.2.2.2.2
  have hop := h.1.2.2.2.1
  have hst := st_word hN h.1.2.2.2.2.2.2.2.1 hkk k1 k2 (by omega)
  rw [if_pos hw.1] at hst
  obtain ⟨y1, y2, y3⟩ := hY w (by omega)
  have hwhi : 1 ≤ whi w ∧ whi w ≤ 6 := by
    unfold whi wnt
    repeat' split
    all_goals omega
  have hff : cf_202 N X (Int32.ofNat 1) (Int32.ofNat 2) t = some (t, .inl none) := c_fine
  have hC : ∀ t1, cf_46 N X t = some (t1, .inl none) → cf_192 N X (cf_S0 N X (F + 1)) (zz_out + (w + 1)) t = ko_call 5 (cf_194 N X (cf_S0 N X F) (Int32.ofNat 40) (Int32.ofNat 41) (Int32.ofNat (wlo w)) (Int32.ofNat (whi w)) t1) (fun g1 v1 => co_i v1 (fun y => cf_192_81 N X (cf_S0 N X (F + 1)) (zz_out + (w + 1)) (Int32.ofNat (TL b n)[i].2.2.2.1) (Int32.ofNat w) y g1)) := fun t1 a1 => by
    have hiB : cf_249 N X (zz_out + (w + 1)) t = some (t, .inl (some (.int (Int32.ofNat 1)))) := by
      unfold cf_249 cf_249_0 cf_249_7 cf_249_12
      simp (disch := omega) only [ev_S, ev_C, ↓reduceIte, Nat.reduceEqDiff, Nat.reduceLeDiff, Nat.reduceAdd, Nat.reduceMul, Nat.reduceSub, reduceCtorEq, l32_0, l32_1, l32_2, l32_3, l32_4, l32_5, l32_6, l32_7, l32_8, l32_9, l32_10, l32_11, l32_12, l32_13, l32_14, l32_15, l32_16, l32_17, l32_18, l32_19, l32_20, l32_21, l32_22, l32_23, l32_24, l32_25, l32_26, l32_27, l32_28, l32_29, l32_33, l32_40, l32_41, l32_44, l32_45, l32_59, l32_61, l32_91, l32_93, l32_123, l32_125, y3, ev_b32]
    have o1 : (zz_out + (w + 1) < zz_out) = False := eq_false (by omega)
    have o2 : (zz_out < zz_out + (w + 1)) = True := eq_true (by omega)
    have o3 : (zz_out + (w + 1) ≤ zz_out + 41) = True := eq_true (by omega)
    have o4 : (zz_out + (w + 1) = zz_out + 40) = False := eq_false (by omega)
    have o5 : (zz_out + (w + 1) = zz_out + 41) = False := eq_false (by omega)
    have o6 : (zz_out < zz_out + 40) = True := eq_true (by omega)
    have o7 : (zz_out + 40 ≤ zz_out + 41) = True := eq_true (by omega)
    have o8 : (zz_out < zz_out + 41) = True := eq_true (by omega)
    have o9 : (zz_out + 41 ≤ zz_out + 41) = True := eq_true (by omega)
    unfold cf_192 cf_192_0 cf_192_5 cf_192_9 cf_192_16 cf_192_24
    simp (disch := omega) only [ev_S, ev_C, ↓reduceIte, Nat.reduceEqDiff, Nat.reduceLeDiff, Nat.reduceAdd, Nat.reduceMul, Nat.reduceSub, reduceCtorEq, l32_0, l32_1, l32_2, l32_3, l32_4, l32_5, l32_6, l32_7, l32_8, l32_9, l32_10, l32_11, l32_12, l32_13, l32_14, l32_15, l32_16, l32_17, l32_18, l32_19, l32_20, l32_21, l32_22, l32_23, l32_24, l32_25, l32_26, l32_27, l32_28, l32_29, l32_33, l32_40, l32_41, l32_44, l32_45, l32_59, l32_61, l32_91, l32_93, l32_123, l32_125, o1, y1, hiB, hff, c_placeNow, c_valueNow, hcv, e6, Int64.toInt32_ofNat', a1]
    unfold cf_192_33 cf_192_40 cf_192_65
    simp (disch := omega) only [ev_S, ev_C, ↓reduceIte, Nat.reduceEqDiff, Nat.reduceLeDiff, Nat.reduceAdd, Nat.reduceMul, Nat.reduceSub, reduceCtorEq, l32_0, l32_1, l32_2, l32_3, l32_4, l32_5, l32_6, l32_7, l32_8, l32_9, l32_10, l32_11, l32_12, l32_13, l32_14, l32_15, l32_16, l32_17, l32_18, l32_19, l32_20, l32_21, l32_22, l32_23, l32_24, l32_25, l32_26, l32_27, l32_28, l32_29, l32_33, l32_40, l32_41, l32_44, l32_45, l32_59, l32_61, l32_91, l32_93, l32_123, l32_125, o2, o3, o4, o5, o6, o7, o8, o9, ac_eq, ac_ne, y2, y3, ev_b32]
    rfl
  obtain ⟨hi0, (⟨t1, t2, s3, a1, a2, a3, a4, a5, a6⟩ | ⟨t1, t2, s3, a1, a2, a3, a4, a5⟩)⟩ := p_beg (N := N) (X := X) (x1 := Int32.ofNat w) (q := 7) (a := w - 11) hN h (Or.inr (Or.inl ⟨by rw [show w - 11 + 11 = w by omega], by omega, rfl⟩)) hWl (fun _ => k1)
  · rw [hC t1 a1]
    rw [if_neg (by decide)] at a5
    have w3 : rWn s3 := hwn.kp a6.2
    obtain ⟨hi2, _, _, _, hkk2, _, _, _, _⟩ := a4.1.now
    have g1 := r_isSign (N := N) (c := 41) hkk2 (by decide) (by decide)
    have hC2 : cf_194 N X (cf_S0 N X F) (Int32.ofNat 40) (Int32.ofNat 41) (Int32.ofNat (wlo w)) (Int32.ofNat (whi w)) t1 = cf_194_5 N X (cf_S0 N X F) (Int32.ofNat 41) (Int32.ofNat (wlo w)) (Int32.ofNat (whi w)) t2 := by
      unfold cf_194 cf_194_0
      simp (disch := omega) only [ev_S, ev_C, ↓reduceIte, Nat.reduceEqDiff, Nat.reduceLeDiff, Nat.reduceAdd, Nat.reduceMul, Nat.reduceSub, reduceCtorEq, l32_0, l32_1, l32_2, l32_3, l32_4, l32_5, l32_6, l32_7, l32_8, l32_9, l32_10, l32_11, l32_12, l32_13, l32_14, l32_15, l32_16, l32_17, l32_18, l32_19, l32_20, l32_21, l32_22, l32_23, l32_24, l32_25, l32_26, l32_27, l32_28, l32_29, l32_33, l32_40, l32_41, l32_44, l32_45, l32_59, l32_61, l32_91, l32_93, l32_123, l32_125, a2]
    rw [hC2]
    have hQ : okQ 7 (w - 11) (wlo w) (whi w) := ⟨Or.inr (Or.inr rfl), fun _ => ⟨by omega, by rw [show w - 11 + 11 = w by omega], by rw [show w - 11 + 11 = w by omega]⟩, fun z => absurd rfl z⟩
    rcases p_list2 (al := al) (s0 := s) (i0 := i) hN hSX hQ (by omega) (by omega) (by omega) a4 w3 (by omega) (by omega) (fun z s4 he2 f => by
      rw [LL_0 h9, hst]
      have z := z hi2
      rw [if_neg (by decide)] at z
      rw [if_pos z] at g1
      unfold mf_286_180 mf_286_186
      rw [a5]
      unfold mf_287_151 mf_287_157 mf_287_160 mf_287_164 mf_287_167 mf_287_172
      simp (disch := omega) only [ev_S, ev_P, ↓reduceIte, Nat.reduceEqDiff, Nat.reduceLeDiff, Nat.reduceAdd, Nat.reduceMul, Nat.reduceSub, reduceCtorEq, l32_0, l32_1, l32_2, l32_3, l32_4, l32_5, l32_6, l32_7, l32_8, l32_9, l32_10, l32_11, l32_12, l32_13, l32_14, l32_15, l32_16, l32_17, l32_18, l32_19, l32_20, l32_21, l32_22, l32_23, l32_24, l32_25, l32_26, l32_27, l32_28, l32_29, l32_33, l32_40, l32_41, l32_44, l32_45, l32_59, l32_61, l32_91, l32_93, l32_123, l32_125, g1, he2]) (fun z f => by
      rw [LL_0 h9, hst]
      have z := z hi2
      rw [if_neg (by decide)] at z
      rw [if_neg z] at g1
      unfold mf_286_180 mf_286_186
      rw [a5]
      unfold mf_287_151 mf_287_157 mf_287_171 mf_287_172
      simp (disch := omega) only [ev_S, ev_P, ↓reduceIte, Nat.reduceEqDiff, Nat.reduceLeDiff, Nat.reduceAdd, Nat.reduceMul, Nat.reduceSub, reduceCtorEq, l32_0, l32_1, l32_2, l32_3, l32_4, l32_5, l32_6, l32_7, l32_8, l32_9, l32_10, l32_11, l32_12, l32_13, l32_14, l32_15, l32_16, l32_17, l32_18, l32_19, l32_20, l32_21, l32_22, l32_23, l32_24, l32_25, l32_26, l32_27, l32_28, l32_29, l32_33, l32_40, l32_41, l32_44, l32_45, l32_59, l32_61, l32_91, l32_93, l32_123, l32_125, g1]) with ⟨t3, s4, c3, i3, seg, vs3, cl3, k3, y1, y2, y3, y4, y5, y6, y7, y8, y9⟩ | ⟨t3, s4, k3, y1, y2, y3, y4, y5⟩
    · rw [if_neg (by decide)] at y1
      rw [y1]
      have hP : kP t3 2 1 = some p := y4.2.1.1
      have hp : (p = 12 ∨ p = 21) = True := eq_true y4.2.1.2.1
      obtain ⟨m1, m2, m3, m4, m5⟩ := y5
      have h49 : s4.1 9 = Int32.ofNat 0 := y4.1.2.2.2.2.2.2.2.2.2
      have hW8 : W.length < 80 := by omega
      have hcnt : w - 11 = 5 ∨ (1 ≤ c3 ∧ c3 ≤ 2) := by
        by_cases z : w = 16
        · omega
        · refine Or.inr ?_
          unfold wlo whi wnt at y6
          unfold whi wnt at y7
          repeat' split at y6
          all_goals (repeat' split at y7)
          all_goals omega
      have hcnt2 : ¬ w - 11 = 5 → c3 = if w - 11 = 3 ∨ 19 ≤ w - 11 then 2 else 1 := by
        intro z5
        by_cases z : w = 16
        · omega
        · unfold wlo whi wnt at y6
          unfold whi wnt at y7
          repeat' split at y6
          all_goals (repeat' split at y7)
          all_goals (first | omega | (split <;> omega))
      have hcI : cI (code ++ seg) (posC (code ++ seg) (code ++ seg).length) (8, c3, w - 11, 0, Int32.ofNat (TL b n)[i].2.2.2.1, 0, 0) = [(if w - 11 = 5 then Int32.ofNat 24 else if c3 = 1 then Int32.ofNat 22 else Int32.ofNat 23, if w - 11 = 5 then Int32.ofNat c3 else Int32.ofNat w, Int32.ofNat (TL b n)[i].2.2.2.1)] := by
        show (if w - 11 = 5 then _ else if c3 = 1 then _ else _) = _
        by_cases z : w - 11 = 5
        · rw [if_pos z, if_pos z, if_pos z]
          rfl
        · rw [if_neg z, if_neg z, if_neg z]
          rw [show w - 11 + 11 = w by omega]
          by_cases z2 : c3 = 1
          · rw [if_pos z2, if_pos z2]
            rfl
          · rw [if_neg z2, if_neg z2]
            rfl
      obtain ⟨t5, s5, d1, d2, d3, d4, d5⟩ := y4.bo (N := N) (X := X) (c := (8, c3, w - 11, 0, Int32.ofNat (TL b n)[i].2.2.2.1, 0, 0)) (cu' := 0 :: cu) (D' := D + 1) (x1 := Int32.ofNat 8) (x2 := Int32.ofNat (w - 11)) (x3 := Int32.ofNat c3) (x4 := Int32.ofNat (TL b n)[i].2.2.2.1) hcI rfl (Or.inr (Or.inr (by simp))) (eff_lit ⟨Or.inr rfl, rfl⟩) ⟨by simp, by simp, fun _ => ⟨by show w - 11 < 28; omega, fun _ => by show c3 ≤ 6; omega, fun z => hcnt2 z⟩, by simp, by simp, by simp, by simp⟩ (by omega) (Or.inr (by show D + 1 + (1 + (c3 - 1)) ≤ _; omega))
      have hE : E2 N 7 W.length (Int32.ofNat c3) s4 = some (s5, some (.int (Int32.ofNat 1))) := by
        show mf_290_114 N (Int32.ofNat W.length) (Int32.ofNat c3) s4 = _
        unfold mf_290_114 mf_290_123 mf_290_134 mf_290_153 mf_290_273
        simp (disch := omega) only [ev_S, ev_P, ↓reduceIte, Nat.reduceEqDiff, Nat.reduceLeDiff, Nat.reduceAdd, Nat.reduceMul, Nat.reduceSub, reduceCtorEq, l32_0, l32_1, l32_2, l32_3, l32_4, l32_5, l32_6, l32_7, l32_8, l32_9, l32_10, l32_11, l32_12, l32_13, l32_14, l32_15, l32_16, l32_17, l32_18, l32_19, l32_20, l32_21, l32_22, l32_23, l32_24, l32_25, l32_26, l32_27, l32_28, l32_29, l32_33, l32_40, l32_41, l32_44, l32_45, l32_59, l32_61, l32_91, l32_93, l32_123, l32_125, h49, m1, m2, m4, d2]
      refine Or.inl ⟨t5, s5, k3, i3, seg ++ [_], vs3, cl3, ?_, by omega, by omega, fun f => y9 s5 hE f, by rw [← List.append_assoc]; exact d3, a6.tr (y8.tr d4)⟩
      show cf_192_81 N X (cf_S0 N X (F + 1)) (zz_out + (w + 1)) (Int32.ofNat (TL b n)[i].2.2.2.1) (Int32.ofNat w) (Int32.ofNat c3) t3 = _
      have o2 : (zz_out < zz_out + (w + 1)) = True := eq_true (by omega)
      have o3 : (zz_out + (w + 1) ≤ zz_out + 41) = True := eq_true (by omega)
      have o6 : (zz_out < zz_out + 17) = True := eq_true (by omega)
      have o7 : (zz_out + 17 ≤ zz_out + 41) = True := eq_true (by omega)
      have hc20 : c3 < 20 := by omega
      by_cases z : w - 11 = 5
      · rw [if_pos z, if_pos z] at d1
        have o4 : (zz_out + (w + 1) = zz_out + 17) = True := eq_true (by omega)
        unfold cf_192_81 cf_192_90 cf_192_102 cf_192_129
        simp (disch := omega) only [ev_S, ev_C, ↓reduceIte, Nat.reduceEqDiff, Nat.reduceLeDiff, Nat.reduceAdd, Nat.reduceMul, Nat.reduceSub, reduceCtorEq, l32_0, l32_1, l32_2, l32_3, l32_4, l32_5, l32_6, l32_7, l32_8, l32_9, l32_10, l32_11, l32_12, l32_13, l32_14, l32_15, l32_16, l32_17, l32_18, l32_19, l32_20, l32_21, l32_22, l32_23, l32_24, l32_25, l32_26, l32_27, l32_28, l32_29, l32_33, l32_40, l32_41, l32_44, l32_45, l32_59, l32_61, l32_91, l32_93, l32_123, l32_125, o2, o3, o4, o6, o7, ac_ne, hP, hp, d1]
      · rw [if_neg z, if_neg z] at d1
        have o4 : (zz_out + (w + 1) = zz_out + 17) = False := eq_false (by omega)
        by_cases z2 : c3 = 1
        · rw [if_pos z2] at d1
          subst z2
          unfold cf_192_81 cf_192_106 cf_192_116 cf_192_123 cf_192_128 cf_192_129
          simp (disch := omega) only [ev_S, ev_C, ↓reduceIte, Nat.reduceEqDiff, Nat.reduceLeDiff, Nat.reduceAdd, Nat.reduceMul, Nat.reduceSub, reduceCtorEq, l32_0, l32_1, l32_2, l32_3, l32_4, l32_5, l32_6, l32_7, l32_8, l32_9, l32_10, l32_11, l32_12, l32_13, l32_14, l32_15, l32_16, l32_17, l32_18, l32_19, l32_20, l32_21, l32_22, l32_23, l32_24, l32_25, l32_26, l32_27, l32_28, l32_29, l32_33, l32_40, l32_41, l32_44, l32_45, l32_59, l32_61, l32_91, l32_93, l32_123, l32_125, o2, o3, o4, o6, o7, ac_ne, hP, hp, d1]
        · rw [if_neg z2] at d1
          unfold cf_192_81 cf_192_106 cf_192_121 cf_192_123 cf_192_128 cf_192_129
          simp (disch := omega) only [ev_S, ev_C, ↓reduceIte, Nat.reduceEqDiff, Nat.reduceLeDiff, Nat.reduceAdd, Nat.reduceMul, Nat.reduceSub, reduceCtorEq, l32_0, l32_1, l32_2, l32_3, l32_4, l32_5, l32_6, l32_7, l32_8, l32_9, l32_10, l32_11, l32_12, l32_13, l32_14, l32_15, l32_16, l32_17, l32_18, l32_19, l32_20, l32_21, l32_22, l32_23, l32_24, l32_25, l32_26, l32_27, l32_28, l32_29, l32_33, l32_40, l32_41, l32_44, l32_45, l32_59, l32_61, l32_91, l32_93, l32_123, l32_125, o2, o3, o4, o6, o7, ac_ne, hP, hp, d1, z2]
    · rw [if_neg (by decide)] at y1
      exact Or.inr ⟨t3, s4, k3, by rw [y1]; rfl, y2, fun f => y5 f, y3, a6.pre y4⟩
  · rw [hC t1 a1]
    obtain ⟨x, y, v1, v2, v3, v4, v5, v6, v7⟩ := a4
    refine Or.inr ⟨t2, s3, 2, ?_, by omega, fun f => ?_, ⟨x, y, v1, v2, v3, v4, v5, v6, v7⟩, a5⟩
    · unfold cf_194 cf_194_0
      simp (disch := omega) only [ev_S, ev_C, ↓reduceIte, Nat.reduceEqDiff, Nat.reduceLeDiff, Nat.reduceAdd, Nat.reduceMul, Nat.reduceSub, reduceCtorEq, l32_0, l32_1, l32_2, l32_3, l32_4, l32_5, l32_6, l32_7, l32_8, l32_9, l32_10, l32_11, l32_12, l32_13, l32_14, l32_15, l32_16, l32_17, l32_18, l32_19, l32_20, l32_21, l32_22, l32_23, l32_24, l32_25, l32_26, l32_27, l32_28, l32_29, l32_33, l32_40, l32_41, l32_44, l32_45, l32_59, l32_61, l32_91, l32_93, l32_123, l32_125, a2]
      rfl
    · rw [show f + 2 = (f + 1) + 1 by omega, LL_0 h9, hst]
      unfold mf_286_180 mf_286_186
      simp (disch := omega) only [ev_S, ev_P, ↓reduceIte, Nat.reduceEqDiff, Nat.reduceLeDiff, Nat.reduceAdd, Nat.reduceMul, Nat.reduceSub, reduceCtorEq, l32_0, l32_1, l32_2, l32_3, l32_4, l32_5, l32_6, l32_7, l32_8, l32_9, l32_10, l32_11, l32_12, l32_13, l32_14, l32_15, l32_16, l32_17, l32_18, l32_19, l32_20, l32_21, l32_22, l32_23, l32_24, l32_25, l32_26, l32_27, l32_28, l32_29, l32_33, l32_40, l32_41, l32_44, l32_45, l32_59, l32_61, l32_91, l32_93, l32_123, l32_125, a3]
      exact LL_f (N := N) v6 ⟨v1, v2⟩
/-- a word that is no built-in -/
theorem p_nob {w : Nat} (hN : 170000 ≤ N) (hX : oX N X) (hY : oY X) (h : PE b n p e i op D code code vs cl W cu fs t s) (hk : ∀ hi : i < (TL b n).length, (TL b n)[i].1 = 3 ∧ wix (TL b n)[i].2.2.1 = some w) (hw : w < 11) : RS N b n p e i op D code W cu fs al t s (cf_192 N X rk (zz_out + (w + 1)) t) := by
  obtain ⟨hi, e5, e6, e7, hkk, ho, he, hlt, hll⟩ := h.1.now
  obtain ⟨k1, k2⟩ := hk hi
  have hst := st_word hN h.1.2.2.2.2.2.2.2.1 hkk k1 k2 (by omega)
  rw [if_neg (by omega)] at hst
  obtain ⟨t', a1, a2⟩ := p_wr (al := al) (N := N) (X := X) h hst
  refine Or.inr (a2 _ ?_)
  obtain ⟨y1, y2, y3⟩ := hY w (by omega)
  have hz : whi w = 0 := if_pos hw
  rw [hz] at y3
  have hiB : cf_249 N X (zz_out + (w + 1)) t = some (t, .inl (some (.int (Int32.ofNat 0)))) := by
    unfold cf_249 cf_249_0 cf_249_11 cf_249_12
    simp (disch := omega) only [ev_S, ev_C, ↓reduceIte, Nat.reduceEqDiff, Nat.reduceLeDiff, Nat.reduceAdd, Nat.reduceMul, Nat.reduceSub, reduceCtorEq, l32_0, l32_1, l32_2, l32_3, l32_4, l32_5, l32_6, l32_7, l32_8, l32_9, l32_10, l32_11, l32_12, l32_13, l32_14, l32_15, l32_16, l32_17, l32_18, l32_19, l32_20, l32_21, l32_22, l32_23, l32_24, l32_25, l32_26, l32_27, l32_28, l32_29, l32_33, l32_40, l32_41, l32_44, l32_45, l32_59, l32_61, l32_91, l32_93, l32_123, l32_125, y3, ev_b32]
  have o1 : (zz_out + (w + 1) < zz_out) = False := eq_false (by omega)
  have a1 : cf_202 N X (Int32.ofNat 0) (Int32.ofNat 2) t = some (t', .inr ()) := a1
  unfold cf_192 cf_192_0 cf_192_5
  simp (disch := omega) only [ev_S, ev_C, ↓reduceIte, Nat.reduceEqDiff, Nat.reduceLeDiff, Nat.reduceAdd, Nat.reduceMul, Nat.reduceSub, reduceCtorEq, l32_0, l32_1, l32_2, l32_3, l32_4, l32_5, l32_6, l32_7, l32_8, l32_9, l32_10, l32_11, l32_12, l32_13, l32_14, l32_15, l32_16, l32_17, l32_18, l32_19, l32_20, l32_21, l32_22, l32_23, l32_24, l32_25, l32_26, l32_27, l32_28, l32_29, l32_33, l32_40, l32_41, l32_44, l32_45, l32_59, l32_61, l32_91, l32_93, l32_123, l32_125, o1, y1, hiB, a1]
  rfl
end BLT
end
-- ### 92e.pure.lean.txt
section
/-! ===== PURE: each and fold (1) ===== -/
section WLK
variable {N : Nat} {X : Nat → Option zz_C} {t t' : cS} {s s' s0 s1 s2 : mS} {b : Nat → Nat} {n p e i i0 op D D' : Nat} {code code1 code2 fl : List Ins} {vs : List (List Nat)} {cl : List Cn} {W W' : List Wt} {cu cu' : List Nat} {fs : Nat × Nat × Nat} {al : Int32} {rk : Nat → List Value → cS → kO} {Z : List (Nat × Nat)} {ah : Option (Nat × Nat)}
/-- what goes over is written, and its call noted -/
theorem PE.wk {r pl npl : Nat} {ls : List Nat} (h : PE b n p e i op D code code vs cl W (List.replicate r 0 ++ cu) fs t s) (hr : r = 1 ∨ r = 2) (hls : okL ls ∧ ls.length ≤ 8) (hnp : npl ≤ 1600) (hD : D' + 3 ≤ D) : ∃ t1 t2 t3 t4 s1 s2 s3, (cf_209 N X p (Int32.ofNat 25) (Int32.ofNat 0) (Int32.ofNat pl) t = some (t1, .inl (some (.int (Int32.ofNat (cx code))))) ∧ kP t1 2 1 = some p) ∧ (cf_209 N X p (if r = 1 then Int32.ofNat 13 else Int32.ofNat 15) (Int32.ofNat 0) (Int32.ofNat pl) t1 = some (t2, .inl (some (.int (Int32.ofNat (cx code + 1))))) ∧ kP t2 2 1 = some p) ∧ (cf_198 N X (Int32.ofNat (cx code + 1)) (Int64.ofNat (evB 32 ls)) (Int32.ofNat npl) (Int32.ofNat r) t2 = some (t3, .inl none) ∧ kP t3 2 1 = some p) ∧ cf_209 N X p (if r = 1 then Int32.ofNat 14 else Int32.ofNat 16) (Int32.ofNat (cx code + 1)) (Int32.ofNat pl) t3 = some (t4, .inl (some (.int (Int32.ofNat (cx code + 2))))) ∧ mf_271 N (Int32.ofNat 10) (Int32.ofNat (27 + r)) (Int32.ofNat 0) (Int32.ofNat pl) s = some (s1, some (.int (Int32.ofNat (ob0 e + rl code)))) ∧ mf_271 N (Int32.ofNat 11) (Int32.ofNat (27 + r)) (Int32.ofNat 0) (Int32.ofNat pl) s1 = some (s2, some (.int (Int32.ofNat (ob0 e + rl code + 1)))) ∧ mf_273 N (Int32.ofNat (ob0 e + rl code + 1)) (Int64.ofNat (evB 27 ls)) (Int32.ofNat r) (Int32.ofNat npl) s2 = some (s3, none) ∧ PE b n p e i op D' (code ++ [(10, unk, r, 0, Int32.ofNat pl, 0, 0)]) (code ++ [(10, unk, r, 0, Int32.ofNat pl, 0, 0)]) vs (cl ++ [(code.length, 1, ls, npl, r)]) W (0 :: cu) fs t4 s3 ∧ FR p e t t4 s s3 ∧ fO e s s1 ∧ fO e s1 s2 := by
  have hrl := h.rle
  obtain ⟨h1, hc, hrc, ⟨w1, w2, w3⟩, hW, hV, k1, k2, k3, k4, k5, k6, k7⟩ := h
  have hp := hc.2.1
  obtain ⟨hi, e5, e6, e7, hkk, ho, he, hlt, hll⟩ := h1.now
  have hrm : rmG t := h1.1.2.2.2.2.2.2.2
  have hcx : cx code < 6450 := by omega
  have eE : ∀ k f, eC p k f → ¬ (k = 3) ∧ ¬ (k = 2 ∧ (f = 2 ∨ f = 10 ∨ f = 11)) := fun k f z => by rcases hp with y | y <;> omega
  have eA : ∀ k, aC p k → ¬ (k = 4 ∨ k = 5 ∨ k = 6) := fun k z => by rcases hp with y | y <;> omega
  obtain ⟨t1, a1, a2, a3, a4⟩ := c_emit (N := N) (X := X) (k := Int32.ofNat 25) (a := Int32.ofNat 0) (v := Int32.ofNat pl) hc hrm (by rw [CA_len]; omega)
  rw [CA_len] at a1
  have q1 : pR b n i op t1 s := h1.kC a3 a4 eE eA
  obtain ⟨t2, b1, b2, b3, b4⟩ := c_emit (N := N) (X := X) (k := if r = 1 then Int32.ofNat 13 else Int32.ofNat 15) (a := Int32.ofNat 0) (v := Int32.ofNat pl) a2 q1.1.2.2.2.2.2.2.2 (by rw [List.length_append, CA_len, List.length_singleton]; omega)
  rw [List.length_append, CA_len, List.length_singleton] at b1
  have q2 : pR b n i op t2 s := q1.kC b3 b4 eE eA
  have cl2 : cCl t2 (cl.map (cK code)) := (k1.keep a3 (fun z => by rcases hp with y | y <;> omega) (fun _ z => by rcases hp with y | y <;> omega)).keep b3 (fun z => by rcases hp with y | y <;> omega) (fun _ z => by rcases hp with y | y <;> omega)
  obtain ⟨t3, c1, c2, c3, c4⟩ := c_note (N := N) (X := X) (a := Int32.ofNat (cx code + 1)) (v := Int64.ofNat (evB 32 ls)) (c := Int32.ofNat npl) (d := Int32.ofNat r) cl2 q2.1.2.2.2.2.2.2.2 (by rw [List.length_map]; omega)
  have q3 : pR b n i op t3 s := q2.kC c3 c4 (fun k f z => by omega) (fun k z => by omega)
  have cd3 := b2.keep c3 (fun z => by rcases hp with y | y <;> omega) (fun k z => by rcases hp with y | y <;> omega) (c3.p21 (by omega))
  obtain ⟨t4, d1, d2, d3, d4⟩ := c_emit (N := N) (X := X) (k := if r = 1 then Int32.ofNat 14 else Int32.ofNat 16) (a := Int32.ofNat (cx code + 1)) (v := Int32.ofNat pl) cd3 q3.1.2.2.2.2.2.2.2 (by rw [List.length_append, List.length_append, CA_len, List.length_singleton, List.length_singleton]; omega)
  rw [List.length_append, List.length_append, CA_len, List.length_singleton, List.length_singleton] at d1
  have q4 : pR b n i op t4 s := q3.kC d3 d4 eE eA
  have cl4 := c2.keep d3 (fun z => by rcases hp with y | y <;> omega) (fun _ z => by rcases hp with y | y <;> omega)
  obtain ⟨s1, r1, r2, r3⟩ := r_order (N := N) (x1 := Int32.ofNat 10) (x2 := Int32.ofNat (27 + r)) (x3 := Int32.ofNat 0) (x4 := Int32.ofNat pl) hrc (by rw [RA_len]; omega)
  rw [RA_len] at r1
  obtain ⟨s2, u1, u2, u3⟩ := r_order (N := N) (x1 := Int32.ofNat 11) (x2 := Int32.ofNat (27 + r)) (x3 := Int32.ofNat 0) (x4 := Int32.ofNat pl) r2 (by rw [List.length_append, RA_len, List.length_singleton]; omega)
  rw [List.length_append, RA_len, List.length_singleton, ← Nat.add_assoc] at u1
  have f12 := r3.tr u3
  have rl2 := k2.keep (f12.1 29 (by omega)) (fun q _ => f12.2.2.1 q (by omega)) (f12.2.2.2.1 33)
  obtain ⟨s3, v1, v2, v3⟩ := r_called (N := N) (a := Int32.ofNat (ob0 e + rl code + 1)) (v := Int64.ofNat (evB 27 ls)) (c := Int32.ofNat r) (d := Int32.ofNat npl) rl2 (by rw [List.length_map]; omega)
  have hcI : cI code (posC code code.length) (10, unk, r, 0, Int32.ofNat pl, 0, 0) = [(Int32.ofNat 25, Int32.ofNat 0, Int32.ofNat pl), (if r = 1 then Int32.ofNat 13 else Int32.ofNat 15, Int32.ofNat 0, Int32.ofNat pl), (if r = 1 then Int32.ofNat 14 else Int32.ofNat 16, Int32.ofNat (cx code + 1), Int32.ofNat pl)] := by
    rw [posC_len]
    rfl
  have hrI : rI e code (10, unk, r, 0, Int32.ofNat pl, 0, 0) = [(Int32.ofNat 10, Int32.ofNat (27 + r), Int32.ofNat 0, 0, Int32.ofNat pl), (Int32.ofNat 11, Int32.ofNat (27 + r), Int32.ofNat 0, 0, Int32.ofNat pl)] := rfl
  have tg : tgO code.length (10, unk, r, 0, Int32.ofNat pl, 0, 0) := Or.inl rfl
  have e1 : cl.map (cK (code ++ [(10, unk, r, 0, Int32.ofNat pl, 0, 0)])) = cl.map (cK code) := List.map_congr_left fun x hx => cK_app (k3.1 x hx).1
  have e2 : cl.map (rK e (code ++ [(10, unk, r, 0, Int32.ofNat pl, 0, 0)])) = cl.map (rK e code) := List.map_congr_left fun x hx => rK_app (k3.1 x hx).1
  have e3 : cK (code ++ [(10, unk, r, 0, Int32.ofNat pl, 0, 0)]) (code.length, 1, ls, npl, r) = (Int32.ofNat (cx code + 1), Int64.ofNat (evB 32 ls), Int32.ofNat npl, Int32.ofNat r) := by
    show (Int32.ofNat (posC _ code.length + 1), _) = _
    rw [posC_e]
  have e4 : rK e (code ++ [(10, unk, r, 0, Int32.ofNat pl, 0, 0)]) (code.length, 1, ls, npl, r) = (Int32.ofNat (ob0 e + rl code + 1), Int64.ofNat (evB 27 ls), Int32.ofNat r, Int32.ofNat npl) := by
    show (Int32.ofNat (ob0 e + posR _ code.length + 1), _) = _
    rw [posR_e]
  have hwf : wfC (code ++ [(10, unk, r, 0, Int32.ofNat pl, 0, 0)]) := wfC_app w1 (Or.inl rfl)
  have G : gL (eQ p) (aQ p) t t4 := ((a3.mono (fun k f z => Or.inr (Or.inr z)) (fun k z => by unfold aQ; omega)).tr (b3.mono (fun k f z => Or.inr (Or.inr z)) (fun k z => by unfold aQ; omega))).tr ((c3.mono (fun k f z => Or.inr (Or.inl (by omega))) (fun k z => by unfold aQ; omega)).tr (d3.mono (fun k f z => Or.inr (Or.inr z)) (fun k z => by unfold aQ; omega)))
  have g4 : kI t4 2 4 = kI t 2 4 ∧ kB t4 7 = kB t 7 := by
    have n1 : ¬ eC p 2 4 := fun z => by rcases hp with y | y <;> omega
    have n2 : ¬ aC p 7 := fun z => by rcases hp with y | y <;> omega
    exact ⟨(d3.1 2 4 n1).trans ((c3.1 2 4 (by omega)).trans ((b3.1 2 4 n1).trans (a3.1 2 4 n1))), (d3.2.2.1 7 n2 (by decide)).2.1.trans ((c3.2.2.1 7 (by omega) (by decide)).2.1.trans ((b3.2.2.1 7 n2 (by decide)).2.1.trans (a3.2.2.1 7 n2 (by decide)).2.1))⟩
  refine ⟨t1, t2, t3, t4, s1, s2, s3, ⟨a1, a2.1⟩, ⟨b1, b2.1⟩, ⟨c1, cd3.1⟩, d1, r1, u1, v1, ⟨?_, ?_, ?_, ⟨hwf, hwf, ⟨[], by rw [List.append_nil]⟩⟩, ?_, ?_, ?_, ?_, ?_, ?_, ?_, ?_, ?_⟩, ⟨G, (fO.Q f12).tr (fN.Q v3)⟩, r3, u3⟩
  · exact (q4.kR (s' := s2) (fun q z => f12.1 q (by omega)) (f12.2.1 7) (f12.2.2.1 2 (by omega)) (f12.2.2.2.1 0)).kR (fun q z => v3.1 q (by omega)) (v3.2.1 7 (fun z => z)) (v3.2.2.1 2 (by omega)) (v3.2.2.2 0 (by omega))
  · rw [CA_app w1 tg, hcI]
    rw [List.append_assoc, List.append_assoc] at d2
    exact d2
  · rw [RA_app w1 tg, hrI]
    rw [List.append_assoc] at u2
    exact rCd.keep u2 (v3.1 12 (by omega)) (v3.1 28 (by omega)) (fun q _ => v3.2.2.1 q (by omega))
  · exact (hW.keep (f12.1 44 (by omega)) (fun q _ => f12.2.2.1 q (by omega)) (f12.2.2.2.1 42)).keep (v3.1 44 (by omega)) (fun q _ => v3.2.2.1 q (by omega)) (v3.2.2.2 42 (by omega))
  · exact hV.keep g4.1 g4.2 ((v3.1 22 (by omega)).trans (f12.1 22 (by omega))) ((v3.2.2.2 21 (by omega)).trans (f12.2.2.2.1 21))
  · rw [List.map_append, e1, List.map_singleton, e3]
    exact cl4
  · rw [List.map_append, e2, List.map_singleton, e4]
    exact v2
  · refine ⟨fun x hx => ?_, fun m hm hk => ?_⟩
    · rw [List.mem_append, List.mem_singleton] at hx
      rcases hx with hx | hx
      · exact (k3.1 x hx).app
      · rw [hx]
        exact ⟨by show code.length < (code ++ [_]).length; rw [List.length_append, List.length_singleton]; omega, hls.1, hls.2, hnp, by show r ≤ 2000; omega, by rw [getD_last], Or.inr ⟨by rw [getD_last], rfl⟩⟩
    · rw [List.length_append, List.length_singleton] at hm
      by_cases z : m < code.length
      · rw [getD_app z] at hk
        obtain ⟨x, hx, he⟩ := k3.2 m z hk
        exact ⟨x, List.mem_append_left _ hx, he⟩
      · exact ⟨_, List.mem_append_right _ (List.mem_singleton.mpr rfl), by show code.length = m; omega⟩
  · exact k4.app (Nat.le_refl _) (by show (if r ≤ 2 then (pop0 r (List.replicate r 0 ++ cu)).map (0 :: ·) else none) = _; rw [if_pos (by omega), pop0_app]; rfl) ⟨by simp, by simp, by simp, fun _ => hr, by simp, by simp, by simp⟩ (Or.inl ⟨rfl, by unfold noJ; simp⟩)
  · rw [rl_app, rl_one, xl_app, xl_one, List.length_append, List.length_singleton]
    show rl code + 2 + (xl code + 0) + (cl.length + 1) + D' ≤ i + 1
    omega
  · rw [rl_app, rl_one, List.length_append, List.length_singleton]
    show cl.length + 1 ≤ rl code + 2
    omega
  · rw [cx_app, cx_one]
    show cx code + 3 + 3 * D' ≤ 4 * i + 4
    omega
/-- ends1 of each and fold -/
theorem PE.e1w {w : Wt} (h : PE b n p e i op D code code vs cl (W ++ [w]) cu fs t s) (hq : w.1 = 8) (ha : w.2.1 = 28 ∨ w.2.1 = 29) (hc2 : w.2.2.1 < 2000) : ∃ s1, PE b n p e i op D code code vs cl (W ++ [inc w]) cu fs t s1 ∧ FR p e t t s s1 ∧ ((w.2.1 = 29 ∧ w.2.2.1 = 0 → mf_288 N s = mo_bv (mf_267 N (Int32.ofNat 44) s1) (fun s2 => some (s2, some (.int (Int32.ofNat 0))))) ∧ (¬ (w.2.1 = 29 ∧ w.2.2.1 = 0) → mf_288 N s = mo_bi (mf_290 N s1) (fun s2 y => mf_288_189 N y s2))) := by
  have h5 := h.2.2.2.2.1
  obtain ⟨q0, q1, q2, q3, q4, q5, q6, q7⟩ := w_last h5
  obtain ⟨c1, c2⟩ := h.nc
  obtain ⟨hi, e5, e6, e7, hkk, ho, he, hlt, hll⟩ := c1.1.now
  obtain ⟨r0, r1, r2, r3, r4, -⟩ := w_last c1.2.2.2.2.1
  have g1 := r_isSign (N := N) (c := 44) hkk (by decide) (by decide)
  have hW8 : W.length < 80 := by omega
  have hst : mf_288 N s = mo_bi (mf_263 N (Int32.ofNat 44) (mA s 40 (upd (s.2.2.1 40) W.length (Int32.ofNat (w.2.2.1 + 1))))) (fun s1 y => mf_288_30 N (Int32.ofNat W.length) (Int32.ofNat w.1) y s1) := by
    unfold mf_288 mf_288_0
    simp (disch := omega) only [ev_S, ev_P, ↓reduceIte, Nat.reduceEqDiff, Nat.reduceLeDiff, Nat.reduceAdd, Nat.reduceMul, Nat.reduceSub, reduceCtorEq, l32_0, l32_1, l32_2, l32_3, l32_4, l32_5, l32_6, l32_7, l32_8, l32_9, l32_10, l32_11, l32_12, l32_13, l32_14, l32_15, l32_16, l32_17, l32_18, l32_19, l32_20, l32_21, l32_22, l32_23, l32_24, l32_25, l32_26, l32_27, l32_28, l32_29, l32_33, l32_40, l32_41, l32_44, l32_45, l32_59, l32_61, l32_91, l32_93, l32_123, l32_125, q0, q2, q4]
  have r3 : (mA s 40 (upd (s.2.2.1 40) W.length (Int32.ofNat (w.2.2.1 + 1)))).2.2.1 39 W.length = Int32.ofNat w.2.1 := r3
  have r4 : (mA s 40 (upd (s.2.2.1 40) W.length (Int32.ofNat (w.2.2.1 + 1)))).2.2.1 40 W.length = Int32.ofNat (w.2.2.1 + 1) := r4
  generalize hS : mA s 40 (upd (s.2.2.1 40) W.length (Int32.ofNat (w.2.2.1 + 1))) = sn at *
  refine ⟨sn, c1, c2, fun z => ?_, fun z => ?_⟩
  · rw [hst, g1, hq]
    rw [z.1] at r3
    rw [z.2] at r4
    unfold mf_288_30 mf_288_36 mf_288_89 mf_288_95 mf_288_106 mf_288_116 mf_288_122
    simp (disch := omega) only [ev_S, ev_P, ↓reduceIte, Nat.reduceEqDiff, Nat.reduceLeDiff, Nat.reduceAdd, Nat.reduceMul, Nat.reduceSub, reduceCtorEq, l32_0, l32_1, l32_2, l32_3, l32_4, l32_5, l32_6, l32_7, l32_8, l32_9, l32_10, l32_11, l32_12, l32_13, l32_14, l32_15, l32_16, l32_17, l32_18, l32_19, l32_20, l32_21, l32_22, l32_23, l32_24, l32_25, l32_26, l32_27, l32_28, l32_29, l32_33, l32_40, l32_41, l32_44, l32_45, l32_59, l32_61, l32_91, l32_93, l32_123, l32_125, r3, r4]
  · rw [hst, g1, hq]
    have tail : ∀ y : Nat, y ≤ 1 → mf_288_124 N (Int32.ofNat W.length) (Int32.ofNat 8) (Int32.ofNat y) sn = mo_bi (mf_290 N sn) (fun s2 y => mf_288_189 N y s2) := fun y hy => by
      unfold mf_288_124 mf_288_162 mf_288_166 mf_288_185
      by_cases y0 : y = 0
      · subst y0
        simp (disch := omega) only [ev_S, ev_P, ↓reduceIte, Nat.reduceEqDiff, Nat.reduceLeDiff, Nat.reduceAdd, Nat.reduceMul, Nat.reduceSub, reduceCtorEq, l32_0, l32_1, l32_2, l32_3, l32_4, l32_5, l32_6, l32_7, l32_8, l32_9, l32_10, l32_11, l32_12, l32_13, l32_14, l32_15, l32_16, l32_17, l32_18, l32_19, l32_20, l32_21, l32_22, l32_23, l32_24, l32_25, l32_26, l32_27, l32_28, l32_29, l32_33, l32_40, l32_41, l32_44, l32_45, l32_59, l32_61, l32_91, l32_93, l32_123, l32_125]
      · have y1 : y = 1 := by omega
        subst y1
        simp (disch := omega) only [ev_S, ev_P, ↓reduceIte, Nat.reduceEqDiff, Nat.reduceLeDiff, Nat.reduceAdd, Nat.reduceMul, Nat.reduceSub, reduceCtorEq, l32_0, l32_1, l32_2, l32_3, l32_4, l32_5, l32_6, l32_7, l32_8, l32_9, l32_10, l32_11, l32_12, l32_13, l32_14, l32_15, l32_16, l32_17, l32_18, l32_19, l32_20, l32_21, l32_22, l32_23, l32_24, l32_25, l32_26, l32_27, l32_28, l32_29, l32_33, l32_40, l32_41, l32_44, l32_45, l32_59, l32_61, l32_91, l32_93, l32_123, l32_125]
    have hu : ∃ u : Nat, u ≤ 1 ∧ (if (TL b n)[i].1 = 44 then (1 : Int32) else 0) = Int32.ofNat u := by
      split
      · exact ⟨1, by omega, rfl⟩
      · exact ⟨0, by omega, rfl⟩
    obtain ⟨u, hu1, hu2⟩ := hu
    rw [hu2]
    have tl := tail u hu1
    unfold mf_288_30 mf_288_36 mf_288_89 mf_288_95 mf_288_106
    rcases ha with z1 | z1
    · rw [z1] at r3
      simp (disch := omega) only [ev_S, ev_P, ↓reduceIte, Nat.reduceEqDiff, Nat.reduceLeDiff, Nat.reduceAdd, Nat.reduceMul, Nat.reduceSub, reduceCtorEq, l32_0, l32_1, l32_2, l32_3, l32_4, l32_5, l32_6, l32_7, l32_8, l32_9, l32_10, l32_11, l32_12, l32_13, l32_14, l32_15, l32_16, l32_17, l32_18, l32_19, l32_20, l32_21, l32_22, l32_23, l32_24, l32_25, l32_26, l32_27, l32_28, l32_29, l32_33, l32_40, l32_41, l32_44, l32_45, l32_59, l32_61, l32_91, l32_93, l32_123, l32_125, r3, tl]
    · rw [z1] at r3
      have z2 : ¬ w.2.2.1 = 0 := fun y => z ⟨z1, y⟩
      have z3 : ¬ w.2.2.1 + 1 = 1 := by omega
      simp (disch := omega) only [ev_S, ev_P, ↓reduceIte, Nat.reduceEqDiff, Nat.reduceLeDiff, Nat.reduceAdd, Nat.reduceMul, Nat.reduceSub, reduceCtorEq, l32_0, l32_1, l32_2, l32_3, l32_4, l32_5, l32_6, l32_7, l32_8, l32_9, l32_10, l32_11, l32_12, l32_13, l32_14, l32_15, l32_16, l32_17, l32_18, l32_19, l32_20, l32_21, l32_22, l32_23, l32_24, l32_25, l32_26, l32_27, l32_28, l32_29, l32_33, l32_40, l32_41, l32_44, l32_45, l32_59, l32_61, l32_91, l32_93, l32_123, l32_125, r3, r4, z3, tl]
end WLK
end
-- ### 92f.pure.lean.txt
section
/-! ===== PURE: each and fold (2) ===== -/
section WLM
variable {N : Nat} {X : Nat → Option zz_C} {t t' : cS} {s s' s0 s1 s2 : mS} {b : Nat → Nat} {n p e i i0 op D D' : Nat} {code code1 code2 fl : List Ins} {vs : List (List Nat)} {cl : List Cn} {W W' : List Wt} {cu cu' : List Nat} {fs : Nat × Nat × Nat} {al : Int32} {rk : Nat → List Value → cS → kO} {Z : List (Nat × Nat)} {ah : Option (Nat × Nat)}
/-- ends2 of each and fold comes to the bracket -/
theorem r_en8 {w : Wt} (h : PE b n p e i op D code code vs cl (W ++ [w]) cu fs t s) (hq : w.1 = 8) (hc2 : w.2.2.1 < 2000) : mf_290 N s = mo_bv (mf_267 N (Int32.ofNat 41) (mI s 44 (Int32.ofNat W.length))) (fun s1 => mf_290_114 N (Int32.ofNat W.length) (Int32.ofNat w.2.2.1) s1) := by
  obtain ⟨q0, q1, q2, q3, q4, q5, q6, q7⟩ := w_last h.2.2.2.2.1
  rw [hq] at q2
  have hW8 : W.length < 80 := by omega
  have b0 : (mI s 44 (Int32.ofNat W.length)).2.2.1 38 W.length = Int32.ofNat 8 := q2
  unfold mf_290 mf_290_0
  rw [q0]
  simp (disch := omega) only [ev_S, ev_P, ↓reduceIte, Nat.reduceEqDiff, Nat.reduceLeDiff, Nat.reduceAdd, Nat.reduceMul, Nat.reduceSub, reduceCtorEq, l32_0, l32_1, l32_2, l32_3, l32_4, l32_5, l32_6, l32_7, l32_8, l32_9, l32_10, l32_11, l32_12, l32_13, l32_14, l32_15, l32_16, l32_17, l32_18, l32_19, l32_20, l32_21, l32_22, l32_23, l32_24, l32_25, l32_26, l32_27, l32_28, l32_29, l32_33, l32_40, l32_41, l32_44, l32_45, l32_59, l32_61, l32_91, l32_93, l32_123, l32_125, q2, q4]
  generalize mI s 44 (Int32.ofNat W.length) = sp at *
  unfold mf_290_55 mf_290_108
  simp (disch := omega) only [ev_S, ev_P, ↓reduceIte, Nat.reduceEqDiff, Nat.reduceLeDiff, Nat.reduceAdd, Nat.reduceMul, Nat.reduceSub, reduceCtorEq, l32_0, l32_1, l32_2, l32_3, l32_4, l32_5, l32_6, l32_7, l32_8, l32_9, l32_10, l32_11, l32_12, l32_13, l32_14, l32_15, l32_16, l32_17, l32_18, l32_19, l32_20, l32_21, l32_22, l32_23, l32_24, l32_25, l32_26, l32_27, l32_28, l32_29, l32_33, l32_40, l32_41, l32_44, l32_45, l32_59, l32_61, l32_91, l32_93, l32_123, l32_125, b0]
/-- the last E of each or fold, and what is behind it -/
theorem p_wlast {F r pl npl Q : Nat} {ls : List Nat} (hN : 170000 ≤ N) (hSX : SX N X b n p e F) (hr : r = 1 ∨ r = 2) (hls : okL ls ∧ ls.length ≤ 8) (hpl : pl < 2000 ∧ npl ≤ 1600) (ho1 : op + 1 ≤ 10) (hF : 10 * (10 - (op + 1)) + 10 ≤ F) (hWl : W.length + 1 ≤ 6 * (op + 1)) (h : PE b n p e i (op + 1) (D + 3) code code vs cl (W ++ [(8, 27 + r, r - 1, pl, Int64.ofNat (evB 27 ls), npl)]) (List.replicate (r - 1) 0 ++ cu) fs t s) (hwn : rWn s) : RS N b n p e i op (D + 1) code W cu fs al t s (cf_193_66 N X (cf_S0 N X F) (cf_193_L12 N X (cf_S0 N X F) (Q + 1)) (Int32.ofNat r) (Int32.ofNat pl) (Int64.ofNat (evB 32 ls)) (Int32.ofNat npl) (Int32.ofNat (r - 1)) t) := by
  have hHW : HW 0 (W ++ [(8, 27 + r, r - 1, pl, Int64.ofNat (evB 27 ls), npl)]) := Or.inr ⟨W, _, rfl, Or.inl (by show 3 ≤ 8; omega)⟩
  have hne : al = 0 ∨ ¬ (W ++ [(8, 27 + r, r - 1, pl, Int64.ofNat (evB 27 ls), npl)]) = [] := Or.inr (by simp)
  have hC : cf_193_66 N X (cf_S0 N X F) (cf_193_L12 N X (cf_S0 N X F) (Q + 1)) (Int32.ofNat r) (Int32.ofNat pl) (Int64.ofNat (evB 32 ls)) (Int32.ofNat npl) (Int32.ofNat (r - 1)) t = ko_call 5 (cf_S0 N X F 186 [.int (Int32.ofNat 0)] t) (fun g1 v1 => co_v v1 (cf_193_77 N X (cf_S0 N X F) (Int32.ofNat r) (Int32.ofNat pl) (Int64.ofNat (evB 32 ls)) (Int32.ofNat npl) g1)) := by
    have e1 : r - 1 + 1 = r := by omega
    have eL : ∀ x1 x2 x3 x5 x6 t, cf_193_L12 N X (cf_S0 N X F) (Q + 1) 0 x1 x2 x3 x5 x6 t = cf_193_54 N X (cf_S0 N X F) (cf_193_L12 N X (cf_S0 N X F) Q) x1 x2 x3 x5 x6 t := fun _ _ _ _ _ _ => rfl
    unfold cf_193_66 cf_193_71
    simp only [eL]
    unfold cf_193_54
    simp (disch := omega) only [ev_S, ev_C, ↓reduceIte, Nat.reduceEqDiff, Nat.reduceLeDiff, Nat.reduceAdd, Nat.reduceMul, Nat.reduceSub, reduceCtorEq, l32_0, l32_1, l32_2, l32_3, l32_4, l32_5, l32_6, l32_7, l32_8, l32_9, l32_10, l32_11, l32_12, l32_13, l32_14, l32_15, l32_16, l32_17, l32_18, l32_19, l32_20, l32_21, l32_22, l32_23, l32_24, l32_25, l32_26, l32_27, l32_28, l32_29, l32_33, l32_40, l32_41, l32_44, l32_45, l32_59, l32_61, l32_91, l32_93, l32_123, l32_125, e1]
  rw [hC]
  rcases hSX 0 i (op + 1) (D + 3) code vs cl _ (List.replicate (r - 1) 0 ++ cu) fs al t s (by decide) h hwn hHW (by rw [List.length_append]; exact hWl) hne hF (by omega) with ⟨t4, s4, k4, i4, seg4, code4, vs4, cl4, Z4, ah4, x1, x2, x3, x4, x5, x6, x7, x8, x9, x10⟩ | ⟨t4, s4, k4, x1, x2, x3, x4, x5⟩
  · rw [x1]
    obtain ⟨hi4, -⟩ := x5.1.now
    obtain ⟨s5, d1, d2, d3⟩ := PE.flu (N := N) (al := al) hN x5 x6 x7 (fun z hh => ⟨(x8 z hh).1, (x8 z hh).2.2⟩) x9 hHW hne
    have hr1 : r - 1 < 2000 := by omega
    obtain ⟨s6, g1, g2, g3, g4⟩ := PE.e1w (N := N) d2 rfl (by show 27 + r = 28 ∨ 27 + r = 29; omega) hr1
    have g4 := g4 (by show ¬ (27 + r = 29 ∧ r - 1 = 0); omega)
    have h9 := r_en8 (N := N) g1 rfl (by show r - 1 + 1 < 2000; omega)
    have h9 : mf_290 N s6 = mo_bv (mf_267 N (Int32.ofNat 41) (mI s6 44 (Int32.ofNat W.length))) (fun s1 => mf_290_114 N (Int32.ofNat W.length) (Int32.ofNat (r - 1 + 1)) s1) := h9
    rw [show r - 1 + 1 = r by omega] at h9
    obtain ⟨p1, p2, p3⟩ := g1.pop
    have hLL : ∀ f, LL N (f + (k4 + 1)) al (Int32.ofNat 0) s = mo_bi (mo_bi (mf_290 N s6) (fun s2 y => mf_288_189 N y s2)) (fun s1 y => LL N f al y s1) := fun f => by
      rw [show f + (k4 + 1) = (f + 1) + k4 by omega, x4, d1 f, L215 d2.2.2.2.2.1, g4]
    have hall : FR p e t t4 s (mI s6 44 (Int32.ofNat W.length)) := x10.tr (d3.tr (g2.tr p2))
    rw [h9] at hLL
    show RS N b n p e i op (D + 1) code W cu fs al t s (cf_193_77 N X (cf_S0 N X F) (Int32.ofNat r) (Int32.ofNat pl) (Int64.ofNat (evB 32 ls)) (Int32.ofNat npl) t4)
    generalize hS : mI s6 44 (Int32.ofNat W.length) = sp at *
    rcases p1.sgn (N := N) (X := X) (c := 41) hN (by omega) (fun _ => by omega) with ⟨t7, s7, y1, y2, y3, y4, y5, y6⟩ | ⟨t7, s7, y1, y2, y3, y4, y5⟩
    · rw [if_pos (by omega), Nat.add_sub_cancel] at y4
      have hcu : (0 :: (List.replicate (r - 1) 0 ++ cu)) = List.replicate r 0 ++ cu := by
        rcases hr with z | z <;> subst z <;> rfl
      rw [hcu] at y4
      have hp : (p = 12 ∨ p = 21) = True := eq_true y4.2.1.2.1
      have hP := y4.2.1.1
      obtain ⟨u1, u2, u3, u4, z1, z2, z3, ⟨c1, c1'⟩, ⟨c2, c2'⟩, ⟨c3, c3'⟩, c4, o1, o2, o3, o4, o5, o6, o7⟩ := y4.wk (N := N) (X := X) (pl := pl) (npl := npl) (D' := D + 1) hr hls hpl.2 (by omega)
      have hsl := p3.kp y6
      obtain ⟨m1, m2, m3, m4, m5⟩ := hsl
      have m1 : s7.2.2.1 38 W.length = Int32.ofNat 8 := m1
      have m2 : s7.2.2.1 39 W.length = Int32.ofNat (27 + r) := m2
      have m4 : s7.2.2.1 41 W.length = Int32.ofNat pl := m4
      obtain ⟨m6, m7⟩ := m5 (by show 6 ≤ 8; omega)
      have m6 : s7.2.2.2 42 W.length = Int64.ofNat (evB 27 ls) := m6
      have m7 : s7.2.2.1 43 W.length = Int32.ofNat npl := m7
      have h79 : s7.1 9 = Int32.ofNat 0 := y4.1.2.2.2.2.2.2.2.2.2
      have n2 : z1.2.2.1 39 W.length = Int32.ofNat (27 + r) := by rw [o6.2.2.1 39 (by decide)]; exact m2
      have n4 : z1.2.2.1 41 W.length = Int32.ofNat pl := by rw [o6.2.2.1 41 (by decide)]; exact m4
      have l2 : z2.2.2.1 39 W.length = Int32.ofNat (27 + r) := by rw [o7.2.2.1 39 (by decide)]; exact n2
      have l6 : z2.2.2.2 42 W.length = Int64.ofNat (evB 27 ls) := by rw [o7.2.2.2.1 42, o6.2.2.2.1 42]; exact m6
      have l7 : z2.2.2.1 43 W.length = Int32.ofNat npl := by rw [o7.2.2.1 43 (by decide), o6.2.2.1 43 (by decide)]; exact m7
      have hW8 : W.length < 80 := by omega
      have hE : mf_290_114 N (Int32.ofNat W.length) (Int32.ofNat r) s7 = some (z3, some (.int (Int32.ofNat 1))) := by
        unfold mf_290_114 mf_290_123 mf_290_157 mf_290_202
        simp (disch := omega) only [ev_S, ev_P, ↓reduceIte, Nat.reduceEqDiff, Nat.reduceLeDiff, Nat.reduceAdd, Nat.reduceMul, Nat.reduceSub, reduceCtorEq, l32_0, l32_1, l32_2, l32_3, l32_4, l32_5, l32_6, l32_7, l32_8, l32_9, l32_10, l32_11, l32_12, l32_13, l32_14, l32_15, l32_16, l32_17, l32_18, l32_19, l32_20, l32_21, l32_22, l32_23, l32_24, l32_25, l32_26, l32_27, l32_28, l32_29, l32_33, l32_40, l32_41, l32_44, l32_45, l32_59, l32_61, l32_91, l32_93, l32_123, l32_125, h79, m1, m2, m4, o1]
        unfold mf_290_221
        simp (disch := omega) only [ev_S, ev_P, ↓reduceIte, Nat.reduceEqDiff, Nat.reduceLeDiff, Nat.reduceAdd, Nat.reduceMul, Nat.reduceSub, reduceCtorEq, l32_0, l32_1, l32_2, l32_3, l32_4, l32_5, l32_6, l32_7, l32_8, l32_9, l32_10, l32_11, l32_12, l32_13, l32_14, l32_15, l32_16, l32_17, l32_18, l32_19, l32_20, l32_21, l32_22, l32_23, l32_24, l32_25, l32_26, l32_27, l32_28, l32_29, l32_33, l32_40, l32_41, l32_44, l32_45, l32_59, l32_61, l32_91, l32_93, l32_123, l32_125, n2, n4, o2]
        unfold mf_290_242
        rcases hr with z | z
        · subst z
          unfold mf_290_259 mf_290_264 mf_290_273
          simp (disch := omega) only [ev_S, ev_P, ↓reduceIte, Nat.reduceEqDiff, Nat.reduceLeDiff, Nat.reduceAdd, Nat.reduceMul, Nat.reduceSub, reduceCtorEq, l32_0, l32_1, l32_2, l32_3, l32_4, l32_5, l32_6, l32_7, l32_8, l32_9, l32_10, l32_11, l32_12, l32_13, l32_14, l32_15, l32_16, l32_17, l32_18, l32_19, l32_20, l32_21, l32_22, l32_23, l32_24, l32_25, l32_26, l32_27, l32_28, l32_29, l32_33, l32_40, l32_41, l32_44, l32_45, l32_59, l32_61, l32_91, l32_93, l32_123, l32_125, l2, l6, l7, o3]
        · subst z
          unfold mf_290_263 mf_290_264 mf_290_273
          simp (disch := omega) only [ev_S, ev_P, ↓reduceIte, Nat.reduceEqDiff, Nat.reduceLeDiff, Nat.reduceAdd, Nat.reduceMul, Nat.reduceSub, reduceCtorEq, l32_0, l32_1, l32_2, l32_3, l32_4, l32_5, l32_6, l32_7, l32_8, l32_9, l32_10, l32_11, l32_12, l32_13, l32_14, l32_15, l32_16, l32_17, l32_18, l32_19, l32_20, l32_21, l32_22, l32_23, l32_24, l32_25, l32_26, l32_27, l32_28, l32_29, l32_33, l32_40, l32_41, l32_44, l32_45, l32_59, l32_61, l32_91, l32_93, l32_123, l32_125, l2, l6, l7, o3]
      refine Or.inl ⟨u4, z3, k4 + 1, i4 + 1, seg4 ++ [_], vs4, cl4 ++ [_], ?_, by omega, by omega, fun f => ?_, by rw [← List.append_assoc]; exact o4, hall.tr (y5.tr o5)⟩
      · unfold cf_193_77 cf_193_83 cf_193_94
        simp (disch := omega) only [ev_S, ev_C, ↓reduceIte, Nat.reduceEqDiff, Nat.reduceLeDiff, Nat.reduceAdd, Nat.reduceMul, Nat.reduceSub, reduceCtorEq, l32_0, l32_1, l32_2, l32_3, l32_4, l32_5, l32_6, l32_7, l32_8, l32_9, l32_10, l32_11, l32_12, l32_13, l32_14, l32_15, l32_16, l32_17, l32_18, l32_19, l32_20, l32_21, l32_22, l32_23, l32_24, l32_25, l32_26, l32_27, l32_28, l32_29, l32_33, l32_40, l32_41, l32_44, l32_45, l32_59, l32_61, l32_91, l32_93, l32_123, l32_125, y1, hP, hp, c1, c1']
        rcases hr with z | z
        · subst z
          unfold cf_193_104 cf_193_111 cf_193_116 cf_193_128 cf_193_137 cf_193_144 cf_193_150
          rw [if_pos rfl] at c2 c4
          simp (disch := omega) only [ev_S, ev_C, ↓reduceIte, Nat.reduceEqDiff, Nat.reduceLeDiff, Nat.reduceAdd, Nat.reduceMul, Nat.reduceSub, reduceCtorEq, l32_0, l32_1, l32_2, l32_3, l32_4, l32_5, l32_6, l32_7, l32_8, l32_9, l32_10, l32_11, l32_12, l32_13, l32_14, l32_15, l32_16, l32_17, l32_18, l32_19, l32_20, l32_21, l32_22, l32_23, l32_24, l32_25, l32_26, l32_27, l32_28, l32_29, l32_33, l32_40, l32_41, l32_44, l32_45, l32_59, l32_61, l32_91, l32_93, l32_123, l32_125, hp, c2, c2', c3, c3', c4]
        · subst z
          unfold cf_193_109 cf_193_111 cf_193_116 cf_193_128 cf_193_142 cf_193_144 cf_193_150
          rw [if_neg (by decide)] at c2 c4
          simp (disch := omega) only [ev_S, ev_C, ↓reduceIte, Nat.reduceEqDiff, Nat.reduceLeDiff, Nat.reduceAdd, Nat.reduceMul, Nat.reduceSub, reduceCtorEq, l32_0, l32_1, l32_2, l32_3, l32_4, l32_5, l32_6, l32_7, l32_8, l32_9, l32_10, l32_11, l32_12, l32_13, l32_14, l32_15, l32_16, l32_17, l32_18, l32_19, l32_20, l32_21, l32_22, l32_23, l32_24, l32_25, l32_26, l32_27, l32_28, l32_29, l32_33, l32_40, l32_41, l32_44, l32_45, l32_59, l32_61, l32_91, l32_93, l32_123, l32_125, hp, c2, c2', c3, c3', c4]
      · rw [hLL, y2]
        show mo_bi (mo_bi (mf_290_114 N (Int32.ofNat W.length) (Int32.ofNat r) s7) _) _ = _
        rw [hE]
        rfl
    · obtain ⟨x, y, v1, v2, v3, v4, v5, v6, v7⟩ := y3
      refine Or.inr ⟨t7, s7, k4 + 2, ?_, by omega, fun f => ?_, ⟨x, y, v1, v2, v3, v4, v5, v6, v7⟩, hall.pre y4⟩
      · unfold cf_193_77
        simp (disch := omega) only [ev_S, ev_C, ↓reduceIte, Nat.reduceEqDiff, Nat.reduceLeDiff, Nat.reduceAdd, Nat.reduceMul, Nat.reduceSub, reduceCtorEq, l32_0, l32_1, l32_2, l32_3, l32_4, l32_5, l32_6, l32_7, l32_8, l32_9, l32_10, l32_11, l32_12, l32_13, l32_14, l32_15, l32_16, l32_17, l32_18, l32_19, l32_20, l32_21, l32_22, l32_23, l32_24, l32_25, l32_26, l32_27, l32_28, l32_29, l32_33, l32_40, l32_41, l32_44, l32_45, l32_59, l32_61, l32_91, l32_93, l32_123, l32_125, y1]
        rfl
      · have hE : mf_290_114 N (Int32.ofNat W.length) (Int32.ofNat r) s7 = some (s7, some (.int (Int32.ofNat 1))) := by
          unfold mf_290_114 mf_290_121
          simp (disch := omega) only [ev_S, ev_P, ↓reduceIte, Nat.reduceEqDiff, Nat.reduceLeDiff, Nat.reduceAdd, Nat.reduceMul, Nat.reduceSub, reduceCtorEq, l32_0, l32_1, l32_2, l32_3, l32_4, l32_5, l32_6, l32_7, l32_8, l32_9, l32_10, l32_11, l32_12, l32_13, l32_14, l32_15, l32_16, l32_17, l32_18, l32_19, l32_20, l32_21, l32_22, l32_23, l32_24, l32_25, l32_26, l32_27, l32_28, l32_29, l32_33, l32_40, l32_41, l32_44, l32_45, l32_59, l32_61, l32_91, l32_93, l32_123, l32_125, v6]
        rw [show f + (k4 + 2) = (f + 1) + (k4 + 1) by omega, hLL, y2]
        show mo_bi (mo_bi (mf_290_114 N (Int32.ofNat W.length) (Int32.ofNat r) s7) _) _ = _
        rw [hE]
        exact LL_f (N := N) v6 ⟨v1, v2⟩
  · exact Or.inr ⟨t4, s4, k4, by rw [x1]; rfl, x2, x3, x4, x5⟩
end WLM
end
-- ### 92g.pure.lean.txt
section
/-! ===== PURE: each and fold (3) ===== -/
section WLN
variable {N : Nat} {X : Nat → Option zz_C} {t t' : cS} {s s' s0 s1 s2 : mS} {b : Nat → Nat} {n p e i i0 op D D' : Nat} {code code1 code2 fl : List Ins} {vs : List (List Nat)} {cl : List Cn} {W W' : List Wt} {cu cu' : List Nat} {fs : Nat × Nat × Nat} {al : Int32} {rk : Nat → List Value → cS → kO} {Z : List (Nat × Nat)} {ah : Option (Nat × Nat)}
/-- all E of each and fold -/
theorem p_wall {F r pl npl Q : Nat} {ls : List Nat} (hN : 170000 ≤ N) (hSX : SX N X b n p e F) (hr : r = 1 ∨ r = 2) (hls : okL ls ∧ ls.length ≤ 8) (hpl : pl < 2000 ∧ npl ≤ 1600) (ho1 : op + 1 ≤ 10) (hF : 10 * (10 - (op + 1)) + 10 ≤ F) (hWl : W.length + 1 ≤ 6 * (op + 1)) (h : PE b n p e i (op + 1) (D + 3) code code vs cl (W ++ [(8, 27 + r, 0, pl, Int64.ofNat (evB 27 ls), npl)]) cu fs t s) (hwn : rWn s) : RS N b n p e i op (D + 1) code W cu fs al t s (cf_193_66 N X (cf_S0 N X F) (cf_193_L12 N X (cf_S0 N X F) (Q + 2)) (Int32.ofNat r) (Int32.ofNat pl) (Int64.ofNat (evB 32 ls)) (Int32.ofNat npl) (Int32.ofNat 0) t) := by
  rcases hr with rfl | rfl
  · exact p_wlast (r := 1) (Q := Q + 1) hN hSX (Or.inl rfl) hls hpl ho1 hF hWl h hwn
  · have hHW : HW 0 (W ++ [(8, 27 + 2, 0, pl, Int64.ofNat (evB 27 ls), npl)]) := Or.inr ⟨W, _, rfl, Or.inl (by show 3 ≤ 8; omega)⟩
    have hne : al = 0 ∨ ¬ (W ++ [(8, 27 + 2, 0, pl, Int64.ofNat (evB 27 ls), npl)]) = [] := Or.inr (by simp)
    have hC : cf_193_66 N X (cf_S0 N X F) (cf_193_L12 N X (cf_S0 N X F) (Q + 2)) (Int32.ofNat 2) (Int32.ofNat pl) (Int64.ofNat (evB 32 ls)) (Int32.ofNat npl) (Int32.ofNat 0) t = ko_call 5 (cf_S0 N X F 186 [.int (Int32.ofNat 0)] t) (fun g1 v1 => co_v v1 (ko_call 5 (cf_201 N X (Int32.ofNat 44) g1) (fun g2 v2 => co_v v2 (cf_193_66 N X (cf_S0 N X F) (cf_193_L12 N X (cf_S0 N X F) (Q + 1)) (Int32.ofNat 2) (Int32.ofNat pl) (Int64.ofNat (evB 32 ls)) (Int32.ofNat npl) (Int32.ofNat (2 - 1)) g2)))) := by
      have eL : ∀ x1 x2 x3 x5 x6 t, cf_193_L12 N X (cf_S0 N X F) (Q + 2) 0 x1 x2 x3 x5 x6 t = cf_193_54 N X (cf_S0 N X F) (cf_193_L12 N X (cf_S0 N X F) (Q + 1)) x1 x2 x3 x5 x6 t := fun _ _ _ _ _ _ => rfl
      show ko_call 5 (cf_S0 N X F 186 [.int (Int32.ofNat 0)] t) (fun g1 v1 => co_v v1 (cf_193_71 N X (cf_S0 N X F) (cf_193_L12 N X (cf_S0 N X F) (Q + 2)) (Int32.ofNat 2) (Int32.ofNat pl) (Int64.ofNat (evB 32 ls)) (Int32.ofNat npl) (Int32.ofNat 0) g1)) = _
      unfold cf_193_71
      simp only [eL]
      unfold cf_193_54 cf_193_60
      simp (disch := omega) only [ev_S, ev_C, ↓reduceIte, Nat.reduceEqDiff, Nat.reduceLeDiff, Nat.reduceAdd, Nat.reduceMul, Nat.reduceSub, reduceCtorEq, l32_0, l32_1, l32_2, l32_3, l32_4, l32_5, l32_6, l32_7, l32_8, l32_9, l32_10, l32_11, l32_12, l32_13, l32_14, l32_15, l32_16, l32_17, l32_18, l32_19, l32_20, l32_21, l32_22, l32_23, l32_24, l32_25, l32_26, l32_27, l32_28, l32_29, l32_33, l32_40, l32_41, l32_44, l32_45, l32_59, l32_61, l32_91, l32_93, l32_123, l32_125]
    rw [hC]
    rcases hSX 0 i (op + 1) (D + 3) code vs cl _ cu fs al t s (by decide) h hwn hHW (by rw [List.length_append]; exact hWl) hne hF (by omega) with ⟨t4, s4, k4, i4, seg4, code4, vs4, cl4, Z4, ah4, x1, x2, x3, x4, x5, x6, x7, x8, x9, x10⟩ | ⟨t4, s4, k4, x1, x2, x3, x4, x5⟩
    · rw [x1]
      obtain ⟨hi4, -⟩ := x5.1.now
      obtain ⟨s5, d1, d2, d3⟩ := PE.flu (N := N) (al := al) hN x5 x6 x7 (fun z hh => ⟨(x8 z hh).1, (x8 z hh).2.2⟩) x9 hHW hne
      obtain ⟨s6, g1, g2, g3, g4⟩ := PE.e1w (N := N) d2 rfl (by show 27 + 2 = 28 ∨ 27 + 2 = 29; omega) (by show 0 < 2000; omega)
      have g3 := g3 ⟨rfl, rfl⟩
      have hLL : ∀ f, LL N (f + (k4 + 1)) al (Int32.ofNat 0) s = mo_bi (mo_bv (mf_267 N (Int32.ofNat 44) s6) (fun s2 => some (s2, some (.int (Int32.ofNat 0))))) (fun s1 y => LL N f al y s1) := fun f => by
        rw [show f + (k4 + 1) = (f + 1) + k4 by omega, x4, d1 f, L215 d2.2.2.2.2.1, g3]
      have hall : FR p e t t4 s s6 := x10.tr (d3.tr g2)
      show RS N b n p e i op (D + 1) code W cu fs al t s (ko_call 5 (cf_201 N X (Int32.ofNat 44) t4) _)
      rcases g1.sgn (N := N) (X := X) (c := 44) hN (by omega) (fun z => by omega) with ⟨t7, s7, y1, y2, y3, y4, y5, y6⟩ | ⟨t7, s7, y1, y2, y3, y4, y5⟩
      · rw [if_neg (by omega)] at y4
        have w7 : rWn s7 := hwn.kp (hall.tr y5).2
        have hL2 : ∀ f, LL N (f + (k4 + 1)) al (Int32.ofNat 0) s = LL N f al (Int32.ofNat 0) s7 := fun f => by
          rw [hLL, y2]
          rfl
        rw [y1]
        show RS N b n p e i op (D + 1) code W cu fs al t s (cf_193_66 N X (cf_S0 N X F) (cf_193_L12 N X (cf_S0 N X F) (Q + 1)) (Int32.ofNat 2) (Int32.ofNat pl) (Int64.ofNat (evB 32 ls)) (Int32.ofNat npl) (Int32.ofNat (2 - 1)) t7)
        rcases p_wlast (r := 2) (Q := Q) (al := al) (cu := cu) (D := D) hN hSX (Or.inr rfl) hls hpl ho1 hF hWl (y4.dn (by omega)) w7 with ⟨t8, s8, k8, i8, seg8, vs8, cl8, z1, z2, z3, z4, z5, z6⟩ | ⟨t8, s8, k8, z1, z2, z3, z4, z5⟩
        · refine Or.inl ⟨t8, s8, k8 + (k4 + 1), i8, seg4 ++ seg8, vs8, cl8, z1, by omega, by omega, fun f => ?_, by rw [← List.append_assoc]; exact z5, (hall.tr y5).tr z6⟩
          rw [← Nat.add_assoc, hL2]
          exact z4 f
        · refine Or.inr ⟨t8, s8, k8 + (k4 + 1), z1, by omega, fun f => ?_, z4, (hall.tr y5).pre z5⟩
          rw [← Nat.add_assoc, hL2]
          exact z3 f
      · obtain ⟨x, y, v1, v2, v3, v4, v5, v6, v7⟩ := y3
        refine Or.inr ⟨t7, s7, k4 + 2, by rw [y1]; rfl, by omega, fun f => ?_, ⟨x, y, v1, v2, v3, v4, v5, v6, v7⟩, hall.pre y4⟩
        rw [show f + (k4 + 2) = (f + 1) + (k4 + 1) by omega, hLL, y2]
        exact LL_f (N := N) v6 ⟨v1, v2⟩
    · exact Or.inr ⟨t4, s4, k4, by rw [x1]; rfl, x2, x3, x4, x5⟩
/-- each and fold -/
theorem p_over {F r : Nat} (hN : 170000 ≤ N) (hX : oX N X) (hY : oY X) (hSX : SX N X b n p e F) (h : PE b n p e i op D code code vs cl W cu fs t s) (hwn : rWn s) (hF : 10 * (10 - op) ≤ F) (hWl : W.length ≤ 6 * op + 5) (hr : r = 1 ∨ r = 2) (hk : ∀ hi : i < (TL b n).length, (TL b n)[i].1 = 3 ∧ wix (TL b n)[i].2.2.1 = some (38 + r)) : RS N b n p e i op (D + 1) code W cu fs al t s (cf_192 N X (cf_S0 N X (F + 1)) (zz_out + (38 + r + 1)) t) := by
  obtain ⟨hi, e5, e6, e7, hkk, ho, he, hlt, hll⟩ := h.1.now
  obtain ⟨-, -, hcv, -⟩ := c_word (N := N) (X := X) hX h.1 hk
  obtain ⟨k1, k2⟩ := hk hi
  have h9 : s.1 9 = Int32.ofNat 0 := h.1.2.2.2.2.2.2.2.2.2
  have hop := h.1.2.2.2.1
  have hn : n ≤ 1600 := h.1.2.2.2.2.1
  have hst := st_word hN h.1.2.2.2.2.2.2.2.1 hkk k1 k2 (by omega)
  rw [if_pos (by omega)] at hst
  obtain ⟨y1, y2, y3⟩ := hY (38 + r) (by omega)
  have hwhi : 1 ≤ whi (38 + r) ∧ whi (38 + r) ≤ 6 := by
    rcases hr with z | z <;> subst z <;> decide
  have hff : cf_202 N X (Int32.ofNat 1) (Int32.ofNat 2) t = some (t, .inl none) := c_fine
  have hC : ∀ t1, cf_46 N X t = some (t1, .inl none) → cf_192 N X (cf_S0 N X (F + 1)) (zz_out + (38 + r + 1)) t = ko_call 5 (cf_193 N X (cf_S0 N X F) (Int32.ofNat r) (Int32.ofNat (TL b n)[i].2.2.2.1) t1) (fun g1 v1 => co_v v1 (some (g1, .inl none))) := fun t1 a1 => by
    have hiB : cf_249 N X (zz_out + (38 + r + 1)) t = some (t, .inl (some (.int (Int32.ofNat 1)))) := by
      unfold cf_249 cf_249_0 cf_249_7 cf_249_12
      simp (disch := omega) only [ev_S, ev_C, ↓reduceIte, Nat.reduceEqDiff, Nat.reduceLeDiff, Nat.reduceAdd, Nat.reduceMul, Nat.reduceSub, reduceCtorEq, l32_0, l32_1, l32_2, l32_3, l32_4, l32_5, l32_6, l32_7, l32_8, l32_9, l32_10, l32_11, l32_12, l32_13, l32_14, l32_15, l32_16, l32_17, l32_18, l32_19, l32_20, l32_21, l32_22, l32_23, l32_24, l32_25, l32_26, l32_27, l32_28, l32_29, l32_33, l32_40, l32_41, l32_44, l32_45, l32_59, l32_61, l32_91, l32_93, l32_123, l32_125, y3, ev_b32]
    have o1 : (zz_out + (38 + r + 1) < zz_out) = False := eq_false (by omega)
    have o2 : (zz_out < zz_out + (38 + r + 1)) = True := eq_true (by omega)
    have o3 : (zz_out + (38 + r + 1) ≤ zz_out + 41) = True := eq_true (by omega)
    have o6 : (zz_out < zz_out + 40) = True := eq_true (by omega)
    have o7 : (zz_out + 40 ≤ zz_out + 41) = True := eq_true (by omega)
    have o8 : (zz_out < zz_out + 41) = True := eq_true (by omega)
    have o9 : (zz_out + 41 ≤ zz_out + 41) = True := eq_true (by omega)
    unfold cf_192 cf_192_0 cf_192_5 cf_192_9 cf_192_16 cf_192_24
    simp (disch := omega) only [ev_S, ev_C, ↓reduceIte, Nat.reduceEqDiff, Nat.reduceLeDiff, Nat.reduceAdd, Nat.reduceMul, Nat.reduceSub, reduceCtorEq, l32_0, l32_1, l32_2, l32_3, l32_4, l32_5, l32_6, l32_7, l32_8, l32_9, l32_10, l32_11, l32_12, l32_13, l32_14, l32_15, l32_16, l32_17, l32_18, l32_19, l32_20, l32_21, l32_22, l32_23, l32_24, l32_25, l32_26, l32_27, l32_28, l32_29, l32_33, l32_40, l32_41, l32_44, l32_45, l32_59, l32_61, l32_91, l32_93, l32_123, l32_125, o1, y1, hiB, hff, c_placeNow, c_valueNow, hcv, e6, Int64.toInt32_ofNat', a1]
    rcases hr with z | z
    · subst z
      have o4 : (zz_out + (38 + 1 + 1) = zz_out + 40) = True := eq_true (by omega)
      unfold cf_192_33 cf_192_47 cf_192_55 cf_192_60 cf_192_64
      simp (disch := omega) only [ev_S, ev_C, ↓reduceIte, Nat.reduceEqDiff, Nat.reduceLeDiff, Nat.reduceAdd, Nat.reduceMul, Nat.reduceSub, reduceCtorEq, l32_0, l32_1, l32_2, l32_3, l32_4, l32_5, l32_6, l32_7, l32_8, l32_9, l32_10, l32_11, l32_12, l32_13, l32_14, l32_15, l32_16, l32_17, l32_18, l32_19, l32_20, l32_21, l32_22, l32_23, l32_24, l32_25, l32_26, l32_27, l32_28, l32_29, l32_33, l32_40, l32_41, l32_44, l32_45, l32_59, l32_61, l32_91, l32_93, l32_123, l32_125, o2, o3, o4, o6, o7, o8, o9, ac_eq, ac_ne]
      rfl
    · subst z
      have o4 : (zz_out + (38 + 2 + 1) = zz_out + 40) = False := eq_false (by omega)
      have o5 : (zz_out + (38 + 2 + 1) = zz_out + 41) = True := eq_true (by omega)
      unfold cf_192_33 cf_192_40 cf_192_47 cf_192_59 cf_192_60 cf_192_64
      simp (disch := omega) only [ev_S, ev_C, ↓reduceIte, Nat.reduceEqDiff, Nat.reduceLeDiff, Nat.reduceAdd, Nat.reduceMul, Nat.reduceSub, reduceCtorEq, l32_0, l32_1, l32_2, l32_3, l32_4, l32_5, l32_6, l32_7, l32_8, l32_9, l32_10, l32_11, l32_12, l32_13, l32_14, l32_15, l32_16, l32_17, l32_18, l32_19, l32_20, l32_21, l32_22, l32_23, l32_24, l32_25, l32_26, l32_27, l32_28, l32_29, l32_33, l32_40, l32_41, l32_44, l32_45, l32_59, l32_61, l32_91, l32_93, l32_123, l32_125, o2, o3, o4, o5, o6, o7, o8, o9, ac_eq, ac_ne]
      rfl
  -- an answer of cf_193 is an answer of cf_192
  have up : ∀ R : kO, RS N b n p e i op (D + 1) code W cu fs al t s R → RS N b n p e i op (D + 1) code W cu fs al t s (ko_call 5 R (fun g1 v1 => co_v v1 (some (g1, .inl none)))) := fun R hR => by
    rcases hR with ⟨t8, s8, k8, i8, seg8, vs8, cl8, z1, z2, z3, z4, z5, z6⟩ | ⟨t8, s8, k8, z1, z2, z3, z4, z5⟩
    · exact Or.inl ⟨t8, s8, k8, i8, seg8, vs8, cl8, by rw [z1]; rfl, z2, z3, z4, z5, z6⟩
    · exact Or.inr ⟨t8, s8, k8, by rw [z1]; rfl, z2, z3, z4, z5⟩
  obtain ⟨hi0, (⟨t1, t2, s3, a1, a2, a3, a4, a5, a6⟩ | ⟨t1, t2, s3, a1, a2, a3, a4, a5⟩)⟩ := p_beg (N := N) (X := X) (x1 := Int32.ofNat (38 + r)) (q := 8) (a := 27 + r) hN h (Or.inr (Or.inr ⟨by rw [show 27 + r + 11 = 38 + r by omega], by omega, rfl⟩)) hWl (fun _ => k1)
  · rw [hC t1 a1]
    refine up _ ?_
    rw [if_pos rfl] at a5
    obtain ⟨hi2, e52, e62, e72, hkk2, ho2, he2, hlt2, _⟩ := a4.1.now
    obtain ⟨q0, q1, -⟩ := w_last a4.2.2.2.2.1
    have hpl2 := TL_at hi2
    have hpl1 := TL_at hi
    -- the name is kept
    obtain ⟨f1, f2⟩ := a4.2.2.2.2.1.nm (v := s3.2.1 7) (x := (TL b n)[i + 2].2.2.2.1)
    obtain ⟨g1, g2⟩ := a4.wt f1 f2
    have h36 : s3.1 6 = Int32.ofNat (TL b n)[i + 2].2.2.2.1 := hkk2.1
    have hW8 : W.length < 80 := by omega
    have n1 := r_isName (N := N) hN g1.1.2.2.2.2.2.2.2.1 g1.1.2.2.2.2.2.2.1.2
    have h95 : mf_287_95 N s3 = mo_bi (mf_266 N (mA (mB s3 42 (vp_updL (s3.2.2.2 42) W.length (s3.2.1 7))) 43 (upd (s3.2.2.1 43) W.length (Int32.ofNat (TL b n)[i + 2].2.2.2.1)))) (fun s1 y => mf_287_129 N y s1) := by
      unfold mf_287_95
      rw [q0, h36]
      simp (disch := omega) only [ev_S, ev_P, ↓reduceIte, Nat.reduceEqDiff, Nat.reduceLeDiff, Nat.reduceAdd, Nat.reduceMul, Nat.reduceSub, reduceCtorEq, l32_0, l32_1, l32_2, l32_3, l32_4, l32_5, l32_6, l32_7, l32_8, l32_9, l32_10, l32_11, l32_12, l32_13, l32_14, l32_15, l32_16, l32_17, l32_18, l32_19, l32_20, l32_21, l32_22, l32_23, l32_24, l32_25, l32_26, l32_27, l32_28, l32_29, l32_33, l32_40, l32_41, l32_44, l32_45, l32_59, l32_61, l32_91, l32_93, l32_123, l32_125]
    generalize hS : mA (mB s3 42 (vp_updL (s3.2.2.2 42) W.length (s3.2.1 7))) 43 (upd (s3.2.2.1 43) W.length (Int32.ofNat (TL b n)[i + 2].2.2.2.1)) = sn at *
    have kn : cf_42 N X t2 = some (t2, .inl (some (.int (Int32.ofNat (ck (TL b n)[i + 2]))))) := by rw [c_kindNow, e52]
    by_cases z : ck (TL b n)[i + 2] = 3
    · rw [if_pos z] at n1
      obtain ⟨z1, z2⟩ := ck3.mp z
      have hoL : okL (TL b n)[i + 2].2.2.1 ∧ (TL b n)[i + 2].2.2.1.length ≤ 8 := by
        rcases ho2 with z | z | z | z | z
        · omega
        · omega
        · omega
        · exact z.2
        · omega
      have hv3 : s3.2.1 7 = Int64.ofNat (evB 27 (TL b n)[i + 2].2.2.1) := by
        obtain ⟨y1, y2, y3 | y3 | y3 | y3 | y3⟩ := hkk2
        · omega
        · omega
        · omega
        · exact y3.2.2.1
        · omega
      rw [hv3] at g1
      have hc3 : kL t2 3 7 = Int64.ofNat (evB 32 (TL b n)[i + 2].2.2.1) := by
        rw [e72]
        unfold c3
        rw [if_pos z1, z2]
      have hf2 : cf_202 N X (Int32.ofNat 1) (Int32.ofNat 2) t2 = some (t2, .inl none) := c_fine
      obtain ⟨t3, s5, b1, b2, b3, b4, b5⟩ := g1.adv (N := N) (X := X) hN (fun _ => by omega)
      have hC3 : cf_193 N X (cf_S0 N X F) (Int32.ofNat r) (Int32.ofNat (TL b n)[i].2.2.2.1) t1 = ko_call 5 (cf_201 N X (Int32.ofNat 44) t3) (fun g1 v1 => co_v v1 (cf_193_66 N X (cf_S0 N X F) (cf_193_L12 N X (cf_S0 N X F) (N - 3 + 2)) (Int32.ofNat r) (Int32.ofNat (TL b n)[i].2.2.2.1) (Int64.ofNat (evB 32 (TL b n)[i + 2].2.2.1)) (Int32.ofNat (TL b n)[i + 2].2.2.2.1) (Int32.ofNat 0) g1)) := by
        have eL : ∀ x1 x2 x3 x5 x6 t, cf_193_L12 N X (cf_S0 N X F) N 0 x1 x2 x3 x5 x6 t = cf_193_54 N X (cf_S0 N X F) (cf_193_L12 N X (cf_S0 N X F) (N - 3 + 2)) x1 x2 x3 x5 x6 t := fun x1 x2 x3 x5 x6 t => by
          rw [show (cf_193_L12 N X (cf_S0 N X F) N 0 x1 x2 x3 x5 x6 t = cf_193_L12 N X (cf_S0 N X F) (N - 3 + 2 + 1) 0 x1 x2 x3 x5 x6 t) by rw [show N - 3 + 2 + 1 = N by omega]]
          rfl
        have hr0 : ¬ r ≤ 0 := by omega
        unfold cf_193 cf_193_0 cf_193_6 cf_193_14 cf_193_18 cf_193_23 cf_193_27 cf_193_34 cf_193_42 cf_193_51
        simp (disch := omega) only [ev_S, ev_C, ↓reduceIte, Nat.reduceEqDiff, Nat.reduceLeDiff, Nat.reduceAdd, Nat.reduceMul, Nat.reduceSub, reduceCtorEq, l32_0, l32_1, l32_2, l32_3, l32_4, l32_5, l32_6, l32_7, l32_8, l32_9, l32_10, l32_11, l32_12, l32_13, l32_14, l32_15, l32_16, l32_17, l32_18, l32_19, l32_20, l32_21, l32_22, l32_23, l32_24, l32_25, l32_26, l32_27, l32_28, l32_29, l32_33, l32_40, l32_41, l32_44, l32_45, l32_59, l32_61, l32_91, l32_93, l32_123, l32_125, a2, kn, z, hf2, c_valueNow, c_placeNow, hc3, e62, b1]
        rw [eL]
        unfold cf_193_54 cf_193_60
        simp (disch := omega) only [ev_S, ev_C, ↓reduceIte, Nat.reduceEqDiff, Nat.reduceLeDiff, Nat.reduceAdd, Nat.reduceMul, Nat.reduceSub, reduceCtorEq, l32_0, l32_1, l32_2, l32_3, l32_4, l32_5, l32_6, l32_7, l32_8, l32_9, l32_10, l32_11, l32_12, l32_13, l32_14, l32_15, l32_16, l32_17, l32_18, l32_19, l32_20, l32_21, l32_22, l32_23, l32_24, l32_25, l32_26, l32_27, l32_28, l32_29, l32_33, l32_40, l32_41, l32_44, l32_45, l32_59, l32_61, l32_91, l32_93, l32_123, l32_125, hr0]
      rw [hC3]
      have h287 : ∀ s6, mf_267 N (Int32.ofNat 44) s5 = some (s6, none) → ∀ f, LL N (f + 1) al (Int32.ofNat 0) s = LL N f al (Int32.ofNat 0) s6 := fun s6 hh f => by
        rw [LL_0 h9, hst]
        unfold mf_286_180 mf_286_186
        rw [a5, h95, n1]
        unfold mf_287_129 mf_287_132 mf_287_136 mf_287_143 mf_287_149
        simp (disch := omega) only [ev_S, ev_P, ↓reduceIte, Nat.reduceEqDiff, Nat.reduceLeDiff, Nat.reduceAdd, Nat.reduceMul, Nat.reduceSub, reduceCtorEq, l32_0, l32_1, l32_2, l32_3, l32_4, l32_5, l32_6, l32_7, l32_8, l32_9, l32_10, l32_11, l32_12, l32_13, l32_14, l32_15, l32_16, l32_17, l32_18, l32_19, l32_20, l32_21, l32_22, l32_23, l32_24, l32_25, l32_26, l32_27, l32_28, l32_29, l32_33, l32_40, l32_41, l32_44, l32_45, l32_59, l32_61, l32_91, l32_93, l32_123, l32_125, b2, hh]
      have hall : FR p e t t3 s s5 := a6.tr (g2.tr ⟨b4, b5⟩)
      rcases b3.sgn (N := N) (X := X) (c := 44) hN (by omega) (fun z => by omega) with ⟨t7, s7, y1, y2, y3, y4, y5, y6⟩ | ⟨t7, s7, y1, y2, y3, y4, y5⟩
      · rw [if_neg (by omega)] at y4
        have w7 : rWn s7 := hwn.kp (hall.tr y5).2
        have hLL := h287 s7 y2
        rw [y1]
        show RS N b n p e i op (D + 1) code W cu fs al t s (cf_193_66 N X (cf_S0 N X F) (cf_193_L12 N X (cf_S0 N X F) (N - 3 + 2)) (Int32.ofNat r) (Int32.ofNat (TL b n)[i].2.2.2.1) (Int64.ofNat (evB 32 (TL b n)[i + 2].2.2.1)) (Int32.ofNat (TL b n)[i + 2].2.2.2.1) (Int32.ofNat 0) t7)
        rcases p_wall (Q := N - 3) (pl := (TL b n)[i].2.2.2.1) (npl := (TL b n)[i + 2].2.2.2.1) (al := al) (cu := cu) (D := D) hN hSX hr hoL ⟨by omega, by omega⟩ (by omega) (by omega) (by omega) (y4.dn (by omega)) w7 with ⟨t8, s8, k8, i8, seg8, vs8, cl8, z1, z2, z3, z4, z5, z6⟩ | ⟨t8, s8, k8, z1, z2, z3, z4, z5⟩
        · refine Or.inl ⟨t8, s8, k8 + 1, i8, seg8, vs8, cl8, z1, by omega, by omega, fun f => ?_, z5, (hall.tr y5).tr z6⟩
          rw [← Nat.add_assoc, hLL]
          exact z4 f
        · refine Or.inr ⟨t8, s8, k8 + 1, z1, by omega, fun f => ?_, z4, (hall.tr y5).pre z5⟩
          rw [← Nat.add_assoc, hLL]
          exact z3 f
      · obtain ⟨x, y, v1, v2, v3, v4, v5, v6, v7⟩ := y3
        refine Or.inr ⟨t7, s7, 2, by rw [y1]; rfl, by omega, fun f => ?_, ⟨x, y, v1, v2, v3, v4, v5, v6, v7⟩, hall.pre y4⟩
        rw [show f + 2 = (f + 1) + 1 by omega, h287 s7 y2]
        exact LL_f (N := N) v6 ⟨v1, v2⟩
    · rw [if_neg z] at n1
      obtain ⟨t', s', c1, c2, c3, c4, c5⟩ := p_wrong (N := N) (X := X) g1.1
      obtain ⟨x, y, v1, v2, v3, v4, v5, v6, v7⟩ := c3
      have c1 : cf_202 N X (Int32.ofNat 0) (Int32.ofNat 2) t2 = some (t', .inr ()) := c1
      refine Or.inr ⟨t', s', 2, ?_, by omega, fun f => ?_, ⟨x, y, v1, v2, v3, v4, v5, v6, v7⟩, (a6.tr g2).pre ⟨c4.mono eP_Q (fun _ z => z.elim), fPs.Q c5, g1.oB.kp (c5.1 28 (by omega)), g1.szF c4⟩⟩
      · unfold cf_193 cf_193_0 cf_193_6 cf_193_14 cf_193_22 cf_193_23
        simp (disch := omega) only [ev_S, ev_C, ↓reduceIte, Nat.reduceEqDiff, Nat.reduceLeDiff, Nat.reduceAdd, Nat.reduceMul, Nat.reduceSub, reduceCtorEq, l32_0, l32_1, l32_2, l32_3, l32_4, l32_5, l32_6, l32_7, l32_8, l32_9, l32_10, l32_11, l32_12, l32_13, l32_14, l32_15, l32_16, l32_17, l32_18, l32_19, l32_20, l32_21, l32_22, l32_23, l32_24, l32_25, l32_26, l32_27, l32_28, l32_29, l32_33, l32_40, l32_41, l32_44, l32_45, l32_59, l32_61, l32_91, l32_93, l32_123, l32_125, a2, kn, z, c1]
        rfl
      · have sf := r_signF (N := N) (c := Int32.ofNat 44) v6 ⟨v1, v2⟩
        rw [show f + 2 = (f + 1) + 1 by omega, LL_0 h9, hst]
        unfold mf_286_180 mf_286_186
        rw [a5, h95, n1]
        unfold mf_287_129 mf_287_139 mf_287_143 mf_287_149
        simp (disch := omega) only [ev_S, ev_P, ↓reduceIte, Nat.reduceEqDiff, Nat.reduceLeDiff, Nat.reduceAdd, Nat.reduceMul, Nat.reduceSub, reduceCtorEq, l32_0, l32_1, l32_2, l32_3, l32_4, l32_5, l32_6, l32_7, l32_8, l32_9, l32_10, l32_11, l32_12, l32_13, l32_14, l32_15, l32_16, l32_17, l32_18, l32_19, l32_20, l32_21, l32_22, l32_23, l32_24, l32_25, l32_26, l32_27, l32_28, l32_29, l32_33, l32_40, l32_41, l32_44, l32_45, l32_59, l32_61, l32_91, l32_93, l32_123, l32_125, c2, sf]
        exact LL_f (N := N) v6 ⟨v1, v2⟩
  · rw [hC t1 a1]
    obtain ⟨x, y, v1, v2, v3, v4, v5, v6, v7⟩ := a4
    refine Or.inr ⟨t2, s3, 2, ?_, by omega, fun f => ?_, ⟨x, y, v1, v2, v3, v4, v5, v6, v7⟩, a5⟩
    · unfold cf_193 cf_193_0
      simp (disch := omega) only [ev_S, ev_C, ↓reduceIte, Nat.reduceEqDiff, Nat.reduceLeDiff, Nat.reduceAdd, Nat.reduceMul, Nat.reduceSub, reduceCtorEq, l32_0, l32_1, l32_2, l32_3, l32_4, l32_5, l32_6, l32_7, l32_8, l32_9, l32_10, l32_11, l32_12, l32_13, l32_14, l32_15, l32_16, l32_17, l32_18, l32_19, l32_20, l32_21, l32_22, l32_23, l32_24, l32_25, l32_26, l32_27, l32_28, l32_29, l32_33, l32_40, l32_41, l32_44, l32_45, l32_59, l32_61, l32_91, l32_93, l32_123, l32_125, a2]
      rfl
    · rw [show f + 2 = (f + 1) + 1 by omega, LL_0 h9, hst]
      unfold mf_286_180 mf_286_186
      simp (disch := omega) only [ev_S, ev_P, ↓reduceIte, Nat.reduceEqDiff, Nat.reduceLeDiff, Nat.reduceAdd, Nat.reduceMul, Nat.reduceSub, reduceCtorEq, l32_0, l32_1, l32_2, l32_3, l32_4, l32_5, l32_6, l32_7, l32_8, l32_9, l32_10, l32_11, l32_12, l32_13, l32_14, l32_15, l32_16, l32_17, l32_18, l32_19, l32_20, l32_21, l32_22, l32_23, l32_24, l32_25, l32_26, l32_27, l32_28, l32_29, l32_33, l32_40, l32_41, l32_44, l32_45, l32_59, l32_61, l32_91, l32_93, l32_123, l32_125, a3]
      exact LL_f (N := N) v6 ⟨v1, v2⟩
end WLN
end
-- ### 92h.pure.lean.txt
section
/-! ===== PURE: atoms and indices ===== -/
section IDX
variable {N : Nat} {X : Nat → Option zz_C} {t t' : cS} {s s' s0 s1 s2 : mS} {b : Nat → Nat} {n p e i i0 op D D' : Nat} {code code1 code2 fl : List Ins} {vs : List (List Nat)} {cl : List Cn} {W W' : List Wt} {cu cu' : List Nat} {fs : Nat × Nat × Nat} {al : Int32} {rk : Nat → List Value → cS → kO} {Z : List (Nat × Nat)} {ah : Option (Nat × Nat)}
theorem RS.up {R : kO} (hR : RS N b n p e i op D code W cu fs al t s R) : RS N b n p e i op D code W cu fs al t s (ko_call 5 R (fun g1 v1 => co_v v1 (some (g1, .inl none)))) := by
  rcases hR with ⟨t8, s8, k8, i8, seg8, vs8, cl8, z1, z2, z3, z4, z5, z6⟩ | ⟨t8, s8, k8, z1, z2, z3, z4, z5⟩
  · exact Or.inl ⟨t8, s8, k8, i8, seg8, vs8, cl8, by rw [z1]; rfl, z2, z3, z4, z5, z6⟩
  · exact Or.inr ⟨t8, s8, k8, by rw [z1]; rfl, z2, z3, z4, z5⟩
theorem RS.dn {R : kO} (hR : RS N b n p e i op (D + 1) code W cu fs al t s R) : RS N b n p e i op D code W cu fs al t s R := by
  rcases hR with ⟨t8, s8, k8, i8, seg8, vs8, cl8, z1, z2, z3, z4, z5, z6⟩ | hR
  · exact Or.inl ⟨t8, s8, k8, i8, seg8, vs8, cl8, z1, z2, z3, z4, PE.dn z5 (Nat.le_succ _), z6⟩
  · exact Or.inr hR
/-- an atom -/
theorem p_atom {F : Nat} (hN : 170000 ≤ N) (hX : oX N X) (hY : oY X) (hS0 : SX N X b n p e F) (hS1 : SX N X b n p e (F + 1)) (hS2 : SX N X b n p e (F + 2)) (h : PE b n p e i op D code code vs cl W cu fs t s) (hwn : rWn s) (hD1 : 1 ≤ D) (hF : 10 * (10 - op) ≤ F) (hWl : W.length ≤ 6 * op + 5) (hk : ∀ hi : i < (TL b n).length, (TL b n)[i].1 = 45 ∨ (TL b n)[i].1 = 33 → mf_283 N (Int32.ofNat 2) s = some (s, some (.int (Int32.ofNat 1)))) : RS N b n p e i op D code W cu fs al t s (cf_190 N X (cf_S0 N X (F + 2)) t) := by
  obtain ⟨hi, e5, e6, e7, hkk, ho, he, hlt, hll⟩ := h.1.now
  have hk := hk hi
  by_cases c2 : (TL b n)[i].1 = 2
  · exact p_num hN h hD1 (fun _ => c2)
  · by_cases c3 : (TL b n)[i].1 = 3
    · obtain ⟨hj, hj2⟩ := TL_next hi (by omega)
      cases hw : wix (TL b n)[i].2.2.1 with
      | none =>
        have k3 : ck (TL b n)[i] = 3 := ck3.mpr ⟨c3, hw⟩
        by_cases c4 : (TL b n)[i + 1].1 = 40
        · have hnk : ck (TL b n)[i + 1] = 40 := (ck_sg (by decide)).mpr c4
          have nx := c_nxt (N := N) (X := X) h.1 hj
          rw [hnk] at nx
          rw [k3] at e5
          have hC : cf_190 N X (cf_S0 N X (F + 2)) t = ko_call 5 (cf_191 N X (cf_S0 N X (F + 1)) t) (fun g1 v1 => co_v v1 (some (g1, .inl none))) := by
            unfold cf_190 cf_190_0 cf_190_7 cf_190_15
            simp (disch := omega) only [ev_S, ev_C, ↓reduceIte, Nat.reduceEqDiff, Nat.reduceLeDiff, Nat.reduceAdd, Nat.reduceMul, Nat.reduceSub, reduceCtorEq, l32_0, l32_1, l32_2, l32_3, l32_4, l32_5, l32_6, l32_7, l32_8, l32_9, l32_10, l32_11, l32_12, l32_13, l32_14, l32_15, l32_16, l32_17, l32_18, l32_19, l32_20, l32_21, l32_22, l32_23, l32_24, l32_25, l32_26, l32_27, l32_28, l32_29, l32_33, l32_40, l32_41, l32_44, l32_45, l32_59, l32_61, l32_91, l32_93, l32_123, l32_125, c_placeNow, c_kindNow, e5, e6]
            unfold cf_190_84 cf_190_91 cf_190_96 cf_190_100 cf_190_176
            simp (disch := omega) only [ev_S, ev_C, ↓reduceIte, Nat.reduceEqDiff, Nat.reduceLeDiff, Nat.reduceAdd, Nat.reduceMul, Nat.reduceSub, reduceCtorEq, l32_0, l32_1, l32_2, l32_3, l32_4, l32_5, l32_6, l32_7, l32_8, l32_9, l32_10, l32_11, l32_12, l32_13, l32_14, l32_15, l32_16, l32_17, l32_18, l32_19, l32_20, l32_21, l32_22, l32_23, l32_24, l32_25, l32_26, l32_27, l32_28, l32_29, l32_33, l32_40, l32_41, l32_44, l32_45, l32_59, l32_61, l32_91, l32_93, l32_123, l32_125, nx]
            rfl
          rw [hC]
          exact (p_call hN hS0 h hwn hF hWl (fun _ => ⟨k3, fun _ => c4⟩)).dn.up
        · exact p_get hN h (fun _ => ⟨k3, fun _ => c4⟩)
      | some w =>
        obtain ⟨w1, w2, w3, w4⟩ := c_word (N := N) (X := X) hX h.1 (fun _ => ⟨c3, hw⟩)
        have hC : cf_190 N X (cf_S0 N X (F + 2)) t = ko_call 5 (cf_192 N X (cf_S0 N X (F + 1)) (zz_out + (w + 1)) t) (fun g1 v1 => co_v v1 (some (g1, .inl none))) := by
          unfold cf_190 cf_190_0 cf_190_7 cf_190_15
          simp (disch := omega) only [ev_S, ev_C, ↓reduceIte, Nat.reduceEqDiff, Nat.reduceLeDiff, Nat.reduceAdd, Nat.reduceMul, Nat.reduceSub, reduceCtorEq, l32_0, l32_1, l32_2, l32_3, l32_4, l32_5, l32_6, l32_7, l32_8, l32_9, l32_10, l32_11, l32_12, l32_13, l32_14, l32_15, l32_16, l32_17, l32_18, l32_19, l32_20, l32_21, l32_22, l32_23, l32_24, l32_25, l32_26, l32_27, l32_28, l32_29, l32_33, l32_40, l32_41, l32_44, l32_45, l32_59, l32_61, l32_91, l32_93, l32_123, l32_125, c_placeNow, c_kindNow, w2, e6]
          unfold cf_190_120 cf_190_125 cf_190_128 cf_190_176
          simp (disch := omega) only [ev_S, ev_C, ↓reduceIte, Nat.reduceEqDiff, Nat.reduceLeDiff, Nat.reduceAdd, Nat.reduceMul, Nat.reduceSub, reduceCtorEq, l32_0, l32_1, l32_2, l32_3, l32_4, l32_5, l32_6, l32_7, l32_8, l32_9, l32_10, l32_11, l32_12, l32_13, l32_14, l32_15, l32_16, l32_17, l32_18, l32_19, l32_20, l32_21, l32_22, l32_23, l32_24, l32_25, l32_26, l32_27, l32_28, l32_29, l32_33, l32_40, l32_41, l32_44, l32_45, l32_59, l32_61, l32_91, l32_93, l32_123, l32_125, w1]
          rfl
        rw [hC]
        by_cases d1 : w < 11
        · exact (p_nob hN hX hY h (fun _ => ⟨c3, hw⟩) d1).up
        · by_cases d2 : w < 39
          · exact (p_blt hN hX hY hS0 h hwn hF hWl (fun _ => ⟨c3, hw⟩) ⟨by omega, d2⟩).dn.up
          · obtain ⟨r, hr, rfl⟩ : ∃ r, (r = 1 ∨ r = 2) ∧ w = 38 + r := ⟨w - 38, by omega, by omega⟩
            exact (p_over hN hX hY hS0 h hwn hF hWl hr (fun _ => ⟨c3, hw⟩)).dn.up
    · by_cases c4 : (TL b n)[i].1 = 40
      · exact p_group hN hS2 h hwn hD1 (by omega) hWl (fun _ => c4)
      · by_cases c5 : (TL b n)[i].1 = 91
        · exact p_lit hN hS1 h hwn hD1 (by omega) hWl (fun _ => c5)
        · exact p_none hN h (fun _ => ⟨c2, c3, c4, c5, hk⟩)
/-- indices behind -/
theorem p_idxL {F : Nat} (hN : 170000 ≤ N) (hSX : SX N X b n p e F) (hF : 10 * (10 - op) ≤ F) (hWl : W.length ≤ 6 * op + 5) (ha : al = 0 ∨ ¬ W = []) : ∀ (d i : Nat) (code : List Ins) (vs : List (List Nat)) (cl : List Cn) (t : cS) (s : mS) (m Q : Nat), (TL b n).length ≤ i + d → PE b n p e i op D code code vs cl W (0 :: cu) fs t s → rWn s → m ≤ i → d < Q → 1 ≤ D → (∃ t' s' k i' seg vs' cl', cf_189_L1 N X (cf_S0 N X F) Q 0 (Int32.ofNat m) t = some (t', .inl none) ∧ i ≤ i' ∧ k + i ≤ i' ∧ (∀ f, LL N (f + k) al (Int32.ofNat 1) s = LL N f al (Int32.ofNat 1) s') ∧ PE b n p e i' op D (code ++ seg) (code ++ seg) vs' cl' W (0 :: cu) fs t' s' ∧ (∀ hi : i' < (TL b n).length, ¬ (TL b n)[i'].1 = 91) ∧ FR p e t t' s s') ∨ FLT N b n p e i al (Int32.ofNat 1) t s (cf_189_L1 N X (cf_S0 N X F) Q 0 (Int32.ofNat m) t) := by
  have eL : ∀ Q x1 t, cf_189_L1 N X (cf_S0 N X F) (Q + 1) 0 x1 t = cf_189_6 N X (cf_S0 N X F) (cf_189_L1 N X (cf_S0 N X F) Q) x1 t := fun _ _ _ => rfl
  intro d
  induction d with
  | zero =>
    intro i code vs cl t s m Q hd h
    obtain ⟨hi, _⟩ := h.1.now
    omega
  | succ d ih =>
    intro i code vs cl t s m Q hd h hwn hmi hdQ hD1
    obtain ⟨Q, rfl⟩ : ∃ Q', Q = Q' + 1 := ⟨Q - 1, by omega⟩
    obtain ⟨hi, e5, e6, e7, hkk, ho, he, hlt, hll⟩ := h.1.now
    have hop := h.1.2.2.2.1
    have h9 : s.1 9 = Int32.ofNat 0 := h.1.2.2.2.2.2.2.2.2.2
    have cnt : cf_41 N X t = some (t, .inl (some (.int (Int32.ofNat (TL b n).length)))) := by rw [c_count, h.1.cnt]
    have kn : cf_42 N X t = some (t, .inl (some (.int (Int32.ofNat (ck (TL b n)[i]))))) := by rw [c_kindNow, e5]
    have pn : cf_243 N X t = some (t, .inl (some (.int (Int32.ofNat (TL b n)[i].2.2.2.1)))) := by rw [c_placeNow, e6]
    have hck : ck (TL b n)[i] = 91 ↔ (TL b n)[i].1 = 91 := ck_sg (by decide)
    by_cases z : (TL b n)[i].1 = 91
    · have k1 := hck.mpr z
      have h5 := h.2.2.2.2.1
      have hne44 : al = 0 ∨ ¬ s.1 44 = Int32.ofNat 0 := by
        rcases ha with y | y
        · exact Or.inl y
        · refine Or.inr fun x => ?_
          rw [h5.1] at x
          have l1 : 0 < W.length := List.length_pos_iff.mpr y
          have l2 := h5.2.1
          rw [ev_eq (by omega) (by omega)] at x
          omega
      have g1 := r_isSign (N := N) (s := s) (c := 91) hkk (by decide) (by decide)
      rw [if_pos z] at g1
      have x6 : s.1 6 = Int32.ofNat (TL b n)[i].2.2.2.1 := hkk.1
      have hL0 : ∀ f, LL N (f + 1) al (Int32.ofNat 1) s = mo_bv (mf_268 N (Int32.ofNat 91) s) (fun s1 => mo_bv (mf_281 N (Int32.ofNat 4) (Int32.ofNat 0) (Int32.ofNat (TL b n)[i].2.2.2.1) s1) (fun s2 => LL N f al (Int32.ofNat 0) s2)) := fun f => by
        rw [LL_1 h9 hne44]
        unfold mf_285_38 mf_285_44 mf_285_47 mf_285_58 mf_285_65
        simp (disch := omega) only [ev_S, ev_P, ↓reduceIte, Nat.reduceEqDiff, Nat.reduceLeDiff, Nat.reduceAdd, Nat.reduceMul, Nat.reduceSub, reduceCtorEq, l32_0, l32_1, l32_2, l32_3, l32_4, l32_5, l32_6, l32_7, l32_8, l32_9, l32_10, l32_11, l32_12, l32_13, l32_14, l32_15, l32_16, l32_17, l32_18, l32_19, l32_20, l32_21, l32_22, l32_23, l32_24, l32_25, l32_26, l32_27, l32_28, l32_29, l32_33, l32_40, l32_41, l32_44, l32_45, l32_59, l32_61, l32_91, l32_93, l32_123, l32_125, g1, x6]
      have hC : cf_189_L1 N X (cf_S0 N X F) (Q + 1) 0 (Int32.ofNat m) t = ko_call 5 (cf_201 N X (Int32.ofNat 91) t) (fun g1 v1 => co_v v1 (cf_189_43 N X (cf_S0 N X F) (cf_189_L1 N X (cf_S0 N X F) Q) (Int32.ofNat m) (Int32.ofNat (TL b n)[i].2.2.2.1) g1)) := by
        rw [eL]
        unfold cf_189_6 cf_189_14 cf_189_17 cf_189_24 cf_189_29 cf_189_36
        simp (disch := omega) only [ev_S, ev_C, ↓reduceIte, Nat.reduceEqDiff, Nat.reduceLeDiff, Nat.reduceAdd, Nat.reduceMul, Nat.reduceSub, reduceCtorEq, l32_0, l32_1, l32_2, l32_3, l32_4, l32_5, l32_6, l32_7, l32_8, l32_9, l32_10, l32_11, l32_12, l32_13, l32_14, l32_15, l32_16, l32_17, l32_18, l32_19, l32_20, l32_21, l32_22, l32_23, l32_24, l32_25, l32_26, l32_27, l32_28, l32_29, l32_33, l32_40, l32_41, l32_44, l32_45, l32_59, l32_61, l32_91, l32_93, l32_123, l32_125, cnt, kn, k1, pn]
      rw [hC]
      rcases h.opn (N := N) (X := X) (c := 91) hN (by omega) with ⟨t1, s1, a1, a2, a3, a4, a5, a6⟩ | ⟨t1, s1, a1, a2, a3, a4, a5⟩
      · obtain ⟨s2, b1, b2, b3⟩ := r_wait (N := N) (k := 4) (a := 0) (p := (TL b n)[i].2.2.2.1) a5.2.2.2.2.1 (by omega) (by decide)
        obtain ⟨c1, c2⟩ := a5.wt b2 b3
        have hLL : ∀ f, LL N (f + 1) al (Int32.ofNat 1) s = LL N f al (Int32.ofNat 0) s2 := fun f => by
          rw [hL0, a2]
          show mo_bv (mf_281 N (Int32.ofNat 4) (Int32.ofNat 0) (Int32.ofNat (TL b n)[i].2.2.2.1) s1) _ = _
          rw [b1]
          rfl
        have w2 : rWn s2 := hwn.kp (a6.tr c2).2
        rw [a1]
        show _ ∨ FLT N b n p e i al (Int32.ofNat 1) t s (cf_189_43 N X (cf_S0 N X F) (cf_189_L1 N X (cf_S0 N X F) Q) (Int32.ofNat m) (Int32.ofNat (TL b n)[i].2.2.2.1) t1)
        have hC2 : cf_189_43 N X (cf_S0 N X F) (cf_189_L1 N X (cf_S0 N X F) Q) (Int32.ofNat m) (Int32.ofNat (TL b n)[i].2.2.2.1) t1 = ko_call 5 (cf_S0 N X F 186 [.int (Int32.ofNat 0)] t1) (fun g1 v1 => co_v v1 (cf_189_48 N X (cf_S0 N X F) (cf_189_L1 N X (cf_S0 N X F) Q) (Int32.ofNat m) (Int32.ofNat (TL b n)[i].2.2.2.1) g1)) := rfl
        have hne : al = 0 ∨ ¬ (W ++ [(4, 0, 0, (TL b n)[i].2.2.2.1, (0 : Int64), 0)]) = [] := Or.inr (by simp)
        have hHW : HW 0 (W ++ [(4, 0, 0, (TL b n)[i].2.2.2.1, 0, 0)]) := Or.inr ⟨W, _, rfl, Or.inl (by show 3 ≤ 4; omega)⟩
        show (∃ t' s' k i' seg vs' cl', cf_189_43 N X (cf_S0 N X F) (cf_189_L1 N X (cf_S0 N X F) Q) (Int32.ofNat m) (Int32.ofNat (TL b n)[i].2.2.2.1) t1 = some (t', .inl none) ∧ _) ∨ _
        rw [hC2]
        rcases hSX 0 (i + 1) (op + 1) (D + 1) code vs cl (W ++ [(4, 0, 0, (TL b n)[i].2.2.2.1, 0, 0)]) (0 :: cu) fs al t1 s2 (by decide) c1 w2 hHW (by rw [List.length_append, List.length_singleton]; omega) hne (by omega) (by omega) with ⟨t4, s4, k4, i4, seg4, code4, vs4, cl4, Z4, ah4, x1, x2, x3, x4, x5, x6, x7, x8, x9, x10⟩ | ⟨t4, s4, k4, x1, x2, x3, x4, x5⟩
        · obtain ⟨s5, d1, d2, d3⟩ := PE.flu (N := N) (al := al) hN x5 x6 x7 (fun z hh => ⟨(x8 z hh).1, (x8 z hh).2.2⟩) x9 hHW hne
          obtain ⟨s6, g1, g2, g3, g4⟩ := PE.e1g (N := N) d2 (Or.inr rfl) (by show 0 < 2000; omega)
          have hC3 : ∀ f, LL N (f + 1) al (Int32.ofNat 1) s4 = mo_bi (mo_bv (mf_267 N (Int32.ofNat 93) s6) (fun s2 => mf_288_67 N (Int32.ofNat W.length) (Int32.ofNat 4) s2)) (fun s1 y => LL N f al y s1) := fun f => by
            rw [d1 f, L215 d2.2.2.2.2.1, g4]
            rfl
          have hall : FR p e t t4 s s6 := (a6.tr c2).tr (x10.tr (d3.tr g2))
          obtain ⟨hi4, -⟩ := x5.1.now
          have hW8 : W.length < 80 := by omega
          rw [x1]
          show (∃ t' s' k i' seg vs' cl', cf_189_48 N X (cf_S0 N X F) (cf_189_L1 N X (cf_S0 N X F) Q) (Int32.ofNat m) (Int32.ofNat (TL b n)[i].2.2.2.1) t4 = some (t', .inl none) ∧ _) ∨ FLT N b n p e i al (Int32.ofNat 1) t s (cf_189_48 N X (cf_S0 N X F) (cf_189_L1 N X (cf_S0 N X F) Q) (Int32.ofNat m) (Int32.ofNat (TL b n)[i].2.2.2.1) t4)
          have hl4 : s6.2.2.1 41 W.length = Int32.ofNat (TL b n)[i].2.2.2.1 := g3.2.2.2.1
          rcases g1.sgn (N := N) (X := X) (c := 93) hN (by omega) (fun _ => by omega) with ⟨t7, s7, y1, y2, y3, y4, y5, y6⟩ | ⟨t7, s7, y1, y2, y3, y4, y5⟩
          · rw [if_pos (by omega), Nat.add_sub_cancel] at y4
            have m4 : s7.2.2.1 41 W.length = Int32.ofNat (TL b n)[i].2.2.2.1 := by rw [y6.2.2.1 41 (fun z => z)]; exact hl4
            have hP : kP t7 2 1 = some p := y4.2.1.1
            have hp : (p = 12 ∨ p = 21) = True := eq_true y4.2.1.2.1
            obtain ⟨t8, s8, q1, q2, q3, q4, q5⟩ := y4.bo (N := N) (X := X) (c := (7, 0, 0, 0, Int32.ofNat (TL b n)[i].2.2.2.1, 0, 0)) (cu' := 0 :: cu) (D' := D) (k := Int32.ofNat 21) (a := Int32.ofNat 0) (v := Int32.ofNat (TL b n)[i].2.2.2.1) (x1 := Int32.ofNat 7) (x2 := Int32.ofNat 0) (x3 := Int32.ofNat 0) (x4 := Int32.ofNat (TL b n)[i].2.2.2.1) rfl rfl (Or.inr (Or.inl (Nat.zero_le _))) rfl (by unfold okI; simp) (by omega) (Or.inl (by unfold rlen xlen; simp))
            have w8 : rWn s8 := hwn.kp (hall.tr (y5.tr q4)).2
            have hT : mf_288_67 N (Int32.ofNat W.length) (Int32.ofNat 4) s7 = some (s8, some (.int (Int32.ofNat 1))) := by
              unfold mf_288_67 mf_288_72 mf_288_86 mf_288_87
              simp (disch := omega) only [ev_S, ev_P, ↓reduceIte, Nat.reduceEqDiff, Nat.reduceLeDiff, Nat.reduceAdd, Nat.reduceMul, Nat.reduceSub, reduceCtorEq, l32_0, l32_1, l32_2, l32_3, l32_4, l32_5, l32_6, l32_7, l32_8, l32_9, l32_10, l32_11, l32_12, l32_13, l32_14, l32_15, l32_16, l32_17, l32_18, l32_19, l32_20, l32_21, l32_22, l32_23, l32_24, l32_25, l32_26, l32_27, l32_28, l32_29, l32_33, l32_40, l32_41, l32_44, l32_45, l32_59, l32_61, l32_91, l32_93, l32_123, l32_125, m4, q2]
            have hL4 : ∀ f, LL N (f + (k4 + 2)) al (Int32.ofNat 1) s = LL N f al (Int32.ofNat 1) s8 := fun f => by
              rw [show f + (k4 + 2) = (f + 1 + k4) + 1 by omega, hLL, x4, hC3, y2]
              show mo_bi (mf_288_67 N (Int32.ofNat W.length) (Int32.ofNat 4) s7) _ = _
              rw [hT]
              rfl
            have hC4 : cf_189_48 N X (cf_S0 N X F) (cf_189_L1 N X (cf_S0 N X F) Q) (Int32.ofNat m) (Int32.ofNat (TL b n)[i].2.2.2.1) t4 = cf_189_L1 N X (cf_S0 N X F) Q 0 (Int32.ofNat (m + 1)) t8 := by
              unfold cf_189_48 cf_189_54 cf_189_65
              simp (disch := omega) only [ev_S, ev_C, ↓reduceIte, Nat.reduceEqDiff, Nat.reduceLeDiff, Nat.reduceAdd, Nat.reduceMul, Nat.reduceSub, reduceCtorEq, l32_0, l32_1, l32_2, l32_3, l32_4, l32_5, l32_6, l32_7, l32_8, l32_9, l32_10, l32_11, l32_12, l32_13, l32_14, l32_15, l32_16, l32_17, l32_18, l32_19, l32_20, l32_21, l32_22, l32_23, l32_24, l32_25, l32_26, l32_27, l32_28, l32_29, l32_33, l32_40, l32_41, l32_44, l32_45, l32_59, l32_61, l32_91, l32_93, l32_123, l32_125, y1, hP, hp, q1]
            rw [hC4]
            rcases ih (i4 + 1) (code ++ seg4 ++ [_]) vs4 cl4 t8 s8 (m + 1) Q (by omega) q3 w8 (by omega) (by omega) hD1 with ⟨t9, s9, k9, i9, seg9, vs9, cl9, z1, z2, z3, z4, z5, z6, z7⟩ | ⟨t9, s9, k9, z1, z2, z3, z4, z5⟩
            · refine Or.inl ⟨t9, s9, k9 + (k4 + 2), i9, seg4 ++ [_] ++ seg9, vs9, cl9, z1, by omega, by omega, fun f => ?_, by rw [← List.append_assoc, ← List.append_assoc]; exact z5, z6, (hall.tr (y5.tr q4)).tr z7⟩
              rw [← Nat.add_assoc, hL4]
              exact z4 f
            · refine Or.inr ⟨t9, s9, k9 + (k4 + 2), z1, by omega, fun f => ?_, z4, (hall.tr (y5.tr q4)).pre z5⟩
              rw [← Nat.add_assoc, hL4]
              exact z3 f
          · obtain ⟨x, y, v1, v2, v3, v4, v5, v6, v7⟩ := y3
            have m4 : s7.2.2.1 41 W.length = Int32.ofNat (TL b n)[i].2.2.2.1 := by rw [y5.2.2.1 41 (fun z => z)]; exact hl4
            have hcr := g1.2.2.1.keep (y5.1 12 (by omega)) (y5.1 28 (by omega)) (fun q _ => y5.2.2.1 q (fun z => z))
            have hrl := g1.rle
            obtain ⟨s8, c1, c2, c3⟩ := r_order (N := N) (x1 := Int32.ofNat 7) (x2 := Int32.ofNat 0) (x3 := Int32.ofNat 0) (x4 := Int32.ofNat (TL b n)[i].2.2.2.1) hcr (by rw [RA_len]; omega)
            refine Or.inr ⟨t7, s8, k4 + 3, ?_, by omega, fun f => ?_, pF.post ⟨x, y, v1, v2, v3, v4, v5, v6, v7⟩ (c3.1 9 (by decide)) (c3.1 10 (by decide)), hall.pre (y4.post (fO.Q c3) (c2.oB (by rw [List.length_append, RA_len, List.length_singleton]; omega)))⟩
            · unfold cf_189_48
              simp (disch := omega) only [ev_S, ev_C, ↓reduceIte, Nat.reduceEqDiff, Nat.reduceLeDiff, Nat.reduceAdd, Nat.reduceMul, Nat.reduceSub, reduceCtorEq, l32_0, l32_1, l32_2, l32_3, l32_4, l32_5, l32_6, l32_7, l32_8, l32_9, l32_10, l32_11, l32_12, l32_13, l32_14, l32_15, l32_16, l32_17, l32_18, l32_19, l32_20, l32_21, l32_22, l32_23, l32_24, l32_25, l32_26, l32_27, l32_28, l32_29, l32_33, l32_40, l32_41, l32_44, l32_45, l32_59, l32_61, l32_91, l32_93, l32_123, l32_125, y1]
              rfl
            · have hT : mf_288_67 N (Int32.ofNat W.length) (Int32.ofNat 4) s7 = some (s8, some (.int (Int32.ofNat 1))) := by
                unfold mf_288_67 mf_288_72 mf_288_86 mf_288_87
                simp (disch := omega) only [ev_S, ev_P, ↓reduceIte, Nat.reduceEqDiff, Nat.reduceLeDiff, Nat.reduceAdd, Nat.reduceMul, Nat.reduceSub, reduceCtorEq, l32_0, l32_1, l32_2, l32_3, l32_4, l32_5, l32_6, l32_7, l32_8, l32_9, l32_10, l32_11, l32_12, l32_13, l32_14, l32_15, l32_16, l32_17, l32_18, l32_19, l32_20, l32_21, l32_22, l32_23, l32_24, l32_25, l32_26, l32_27, l32_28, l32_29, l32_33, l32_40, l32_41, l32_44, l32_45, l32_59, l32_61, l32_91, l32_93, l32_123, l32_125, m4, c1]
              rw [show f + (k4 + 3) = (f + 2 + k4) + 1 by omega, hLL, x4, show f + 2 = (f + 1) + 1 by omega, hC3, y2]
              show mo_bi (mf_288_67 N (Int32.ofNat W.length) (Int32.ofNat 4) s7) _ = _
              rw [hT]
              exact LL_f (N := N) ((c3.1 9 (by decide)).trans v6) ⟨v1, v2⟩
        · refine Or.inr ⟨t4, s4, k4 + 1, by rw [x1]; rfl, by omega, fun f => ?_, x4, (a6.tr c2).pre x5⟩
          rw [← Nat.add_assoc, hLL]
          exact x3 f
      · obtain ⟨x, y, v1, v2, v3, v4, v5, v6, v7⟩ := a3
        obtain ⟨s2, b1, b2, b3, b4, b5⟩ := r_waitF (N := N) (k := 4) (a := 0) (q := (TL b n)[i].2.2.2.1) h a5 (by omega) (by decide)
        refine Or.inr ⟨t1, s2, 2, by rw [a1]; rfl, by omega, fun f => ?_, pF.post ⟨x, y, v1, v2, v3, v4, v5, v6, v7⟩ b3 b4, a4.post b2 (a4.2.2.1.kp b5)⟩
        rw [show f + 2 = (f + 1) + 1 by omega, hL0, a2]
        show mo_bv (mf_281 N (Int32.ofNat 4) (Int32.ofNat 0) (Int32.ofNat (TL b n)[i].2.2.2.1) s1) _ = _
        rw [b1]
        exact LL_f (N := N) (b3.trans v6) ⟨v1, v2⟩
    · have k1 : ¬ ck (TL b n)[i] = 91 := fun y => z (hck.mp y)
      refine Or.inl ⟨t, s, 0, i, [], vs, cl, ?_, by omega, by omega, fun f => rfl, by rw [List.append_nil]; exact h, fun _ => z, FR.rf⟩
      rw [eL]
      unfold cf_189_6 cf_189_14 cf_189_17 cf_189_24 cf_189_72
      simp (disch := omega) only [ev_S, ev_C, ↓reduceIte, Nat.reduceEqDiff, Nat.reduceLeDiff, Nat.reduceAdd, Nat.reduceMul, Nat.reduceSub, reduceCtorEq, l32_0, l32_1, l32_2, l32_3, l32_4, l32_5, l32_6, l32_7, l32_8, l32_9, l32_10, l32_11, l32_12, l32_13, l32_14, l32_15, l32_16, l32_17, l32_18, l32_19, l32_20, l32_21, l32_22, l32_23, l32_24, l32_25, l32_26, l32_27, l32_28, l32_29, l32_33, l32_40, l32_41, l32_44, l32_45, l32_59, l32_61, l32_91, l32_93, l32_123, l32_125, cnt, kn, k1]
end IDX
end
-- ### 92i.pure.lean.txt
section
/-! ===== PURE: what has one part ===== -/
section UNA
variable {N : Nat} {X : Nat → Option zz_C} {t t' : cS} {s s' s0 s1 s2 : mS} {b : Nat → Nat} {n p e i i0 op D D' : Nat} {code code1 code2 fl : List Ins} {vs : List (List Nat)} {cl : List Cn} {W W' : List Wt} {cu cu' : List Nat} {fs : Nat × Nat × Nat} {al : Int32} {rk : Nat → List Value → cS → kO} {Z : List (Nat × Nat)} {ah : Option (Nat × Nat)}
/-- an atom and its indices -/
def RI (N : Nat) (b : Nat → Nat) (n p e i op D : Nat) (code : List Ins) (W : List Wt) (cu : List Nat) (fs : Nat × Nat × Nat) (al : Int32) (t : cS) (s : mS) (R : kO) : Prop := (∃ t' s' k i' seg vs' cl', R = some (t', .inl none) ∧ i < i' ∧ k + i ≤ i' ∧ (∀ f, LL N (f + k) al (Int32.ofNat 0) s = LL N f al (Int32.ofNat 1) s') ∧ PE b n p e i' op D (code ++ seg) (code ++ seg) vs' cl' W (0 :: cu) fs t' s' ∧ (∀ hi : i' < (TL b n).length, ¬ (TL b n)[i'].1 = 91) ∧ FR p e t t' s s') ∨ FLT N b n p e i al (Int32.ofNat 0) t s R
theorem p_idx {F : Nat} (hN : 170000 ≤ N) (hX : oX N X) (hY : oY X) (hS0 : SX N X b n p e F) (hS1 : SX N X b n p e (F + 1)) (hS2 : SX N X b n p e (F + 2)) (hS3 : SX N X b n p e (F + 3)) (h : PE b n p e i op D code code vs cl W cu fs t s) (hwn : rWn s) (hD1 : 1 ≤ D) (hF : 10 * (10 - op) ≤ F) (hWl : W.length ≤ 6 * op + 5) (ha : al = 0 ∨ ¬ W = []) (hk : ∀ hi : i < (TL b n).length, (TL b n)[i].1 = 45 ∨ (TL b n)[i].1 = 33 → mf_283 N (Int32.ofNat 2) s = some (s, some (.int (Int32.ofNat 1)))) : RI N b n p e i op D code W cu fs al t s (cf_189 N X (cf_S0 N X (F + 3)) t) := by
  have hC : cf_189 N X (cf_S0 N X (F + 3)) t = ko_call 5 (cf_190 N X (cf_S0 N X (F + 2)) t) (fun g1 v1 => co_v v1 (cf_189_L1 N X (cf_S0 N X (F + 3)) N 0 (Int32.ofNat 0) g1)) := rfl
  rw [hC]
  rcases p_atom (al := al) hN hX hY hS0 hS1 hS2 h hwn hD1 hF hWl hk with ⟨t8, s8, k8, i8, seg8, vs8, cl8, z1, z2, z3, z4, z5, z6⟩ | ⟨t8, s8, k8, z1, z2, z3, z4, z5⟩
  · have w8 : rWn s8 := hwn.kp z6.2
    obtain ⟨hi8, _, _, _, _, _, _, _, hll⟩ := z5.1.now
    rw [z1]
    show RI N b n p e i op D code W cu fs al t s (cf_189_L1 N X (cf_S0 N X (F + 3)) N 0 (Int32.ofNat 0) t8)
    rcases p_idxL (al := al) hN hS3 (by omega) hWl ha (TL b n).length i8 (code ++ seg8) vs8 cl8 t8 s8 0 N (by omega) z5 w8 (by omega) (by omega) hD1 with ⟨t9, s9, k9, i9, seg9, vs9, cl9, y1, y2, y3, y4, y5, y6, y7⟩ | ⟨t9, s9, k9, y1, y2, y3, y4, y5⟩
    · refine Or.inl ⟨t9, s9, k9 + k8, i9, seg8 ++ seg9, vs9, cl9, y1, by omega, by omega, fun f => ?_, by rw [← List.append_assoc]; exact y5, y6, z6.tr y7⟩
      rw [← Nat.add_assoc, z4]
      exact y4 f
    · refine Or.inr ⟨t9, s9, k9 + k8, y1, by omega, fun f => ?_, y4, z6.pre y5⟩
      rw [← Nat.add_assoc, z4]
      exact y3 f
  · exact Or.inr ⟨t8, s8, k8, by rw [z1]; rfl, z2, z3, z4, z5⟩
theorem PE.rb (h : PE b n p e i op D code code1 vs cl W cu fs t s) (h1 : rl code + xl code + cl.length + D' ≤ i + 1) (h2 : cx code + 3 * D' ≤ 4 * i + 4) : PE b n p e i op D' code code1 vs cl W cu fs t s := by
  obtain ⟨g1, hc, hr, hw, hW, hV, k1, k2, k3, k4, k5, k6, k7⟩ := h
  exact ⟨g1, hc, hr, hw, hW, hV, k1, k2, k3, k4, h1, k6, h2⟩
theorem lv_le (k : Nat) : lv k = 9 ∨ lv k < 4 := by
  unfold lv
  repeat' split
  all_goals omega
/-- what has one part -/
theorem p_una {F : Nat} (hN : 170000 ≤ N) (hX : oX N X) (hY : oY X) (hS0 : SX N X b n p e F) (hS1 : SX N X b n p e (F + 1)) (hS2 : SX N X b n p e (F + 2)) (hS3 : SX N X b n p e (F + 3)) (h : PE b n p e i op D code code vs cl W cu fs t s) (hwn : rWn s) (hD1 : 1 ≤ D) (hF : 10 * (10 - op) ≤ F) (hWl : W.length ≤ 6 * op + 4) (hs : HW 4 W) (ha : al = 0 ∨ ¬ W = []) : RX N b n p e 4 i op D code W cu fs al t s (cf_188 N X (cf_S0 N X (F + 4)) t) := by
  obtain ⟨hi, e5, e6, e7, hkk, ho, he, hlt, hll⟩ := h.1.now
  have hop := h.1.2.2.2.1
  have h9 : s.1 9 = Int32.ofNat 0 := h.1.2.2.2.2.2.2.2.2.2
  have kn : cf_42 N X t = some (t, .inl (some (.int (Int32.ofNat (ck (TL b n)[i]))))) := by rw [c_kindNow, e5]
  have pn : cf_243 N X t = some (t, .inl (some (.int (Int32.ofNat (TL b n)[i].2.2.2.1)))) := by rw [c_placeNow, e6]
  have hck1 : ck (TL b n)[i] = 45 ↔ (TL b n)[i].1 = 45 := ck_sg (by decide)
  have hck2 : ck (TL b n)[i] = 33 ↔ (TL b n)[i].1 = 33 := ck_sg (by decide)
  have h5 := h.2.2.2.2.1
  have hno : mf_283 N (Int32.ofNat 2) s = some (s, some (.int (Int32.ofNat 0))) := by
    rcases hs with z | ⟨W', w, z, z2 | ⟨y, z2, z3, z4⟩⟩
    · rw [z] at h5
      exact r_isW0 h5
    · rw [z] at h5
      have := r_isW (N := N) (k := 2) h5 (by decide)
      rw [if_neg (by omega)] at this
      exact this
    · rw [z, z2] at h5
      have := r_isW (N := N) (k := 2) h5 (by decide)
      rw [if_neg (by show ¬ 1 = 2; decide)] at this
      exact this
  by_cases c : (TL b n)[i].1 = 45 ∨ (TL b n)[i].1 = 33
  · -- a sign ahead
    have hst := st_ahead hN h.1.2.2.2.2.2.2.2.1 hkk c hno
    have hv : s.2.1 7 = Int64.ofNat (TL b n)[i].1 := by
      obtain ⟨y1, y2, y3 | y3 | y3 | y3 | y3⟩ := hkk
      · omega
      · omega
      · omega
      · omega
      · have : sgv (TL b n)[i].1 = (TL b n)[i].1 := by
          unfold sgv
          rw [if_pos (by omega)]
        rw [y3.2.2.2, this]
    obtain ⟨s1, b1, b2, b3⟩ := r_wait (N := N) (k := 2) (a := (TL b n)[i].1) (p := (TL b n)[i].2.2.2.1) h5 (by omega) (by decide)
    obtain ⟨c1, c2⟩ := h.wt b2 b3
    obtain ⟨t3, s3, d1, d2, d3, d4, d5⟩ := c1.adv (N := N) (X := X) hN (fun _ => by omega)
    have hLL : ∀ f, LL N (f + 1) al (Int32.ofNat 0) s = LL N f al (Int32.ofNat 0) s3 := fun f => by
      rw [LL_0 h9, hst]
      unfold mf_286_63 mf_286_74 mf_286_78
      simp (disch := omega) only [ev_S, ev_P, ↓reduceIte, Nat.reduceEqDiff, Nat.reduceLeDiff, Nat.reduceAdd, Nat.reduceMul, Nat.reduceSub, reduceCtorEq, l32_0, l32_1, l32_2, l32_3, l32_4, l32_5, l32_6, l32_7, l32_8, l32_9, l32_10, l32_11, l32_12, l32_13, l32_14, l32_15, l32_16, l32_17, l32_18, l32_19, l32_20, l32_21, l32_22, l32_23, l32_24, l32_25, l32_26, l32_27, l32_28, l32_29, l32_33, l32_40, l32_41, l32_44, l32_45, l32_59, l32_61, l32_91, l32_93, l32_123, l32_125, hv, Int64.toInt32_ofNat', b1, d2]
    have hall : FR p e t t3 s s3 := c2.tr ⟨d4, d5⟩
    have hne : al = 0 ∨ ¬ (W ++ [(2, (TL b n)[i].1, 0, (TL b n)[i].2.2.2.1, (0 : Int64), 0)]) = [] := Or.inr (by simp)
    have hyes : ∀ s4, rW s4 (W ++ [(2, (TL b n)[i].1, 0, (TL b n)[i].2.2.2.1, 0, 0)]) → mf_283 N (Int32.ofNat 2) s4 = some (s4, some (.int (Int32.ofNat 1))) := fun s4 hh => by
      have := r_isW (N := N) (k := 2) hh (by decide)
      rw [if_pos rfl] at this
      exact this
    have w3 : rWn s3 := hwn.kp hall.2
    have hoA : okA (some ((TL b n)[i].1, (TL b n)[i].2.2.2.1)) := c
    by_cases c45 : (TL b n)[i].1 = 45
    · have k1 := hck1.mpr c45
      have hP3 : kP t3 2 1 = some p := d3.2.1.1
      have hp : (p = 12 ∨ p = 21) = True := eq_true d3.2.1.2.1
      obtain ⟨t4, f1, f2, f3⟩ := d3.em1 (N := N) (X := X) (c := (2, 0, 0, 0, Int32.ofNat (TL b n)[i].2.2.2.1, 0, 0)) (cu' := 1 :: cu) (D' := D) (k := Int32.ofNat 0) (a := Int32.ofNat 0) (v := Int32.ofNat (TL b n)[i].2.2.2.1) rfl (Or.inr (Or.inl (Nat.zero_le _))) rfl (by unfold okI; simp) (by omega) (Or.inl (by unfold rlen xlen; simp))
      have f2 := f2.rb (D' := D + 1) (by have := h.2.2.2.2.2.2.2.2.2.2.1; rw [rl_app, rl_one, xl_app, xl_one]; show rl code + 0 + (xl code + 0) + _ + _ ≤ _; omega) (by have := h.2.2.2.2.2.2.2.2.2.2.2.2; rw [cx_app, cx_one]; show cx code + 1 + _ ≤ _; omega)
      obtain ⟨g1, g2⟩ := f2.rEm (s' := s3) (fl := []) (c := (2, 0, 0, 0, Int32.ofNat (TL b n)[i].2.2.2.1, 0, 0)) (Or.inr (Or.inl (Nat.zero_le _))) rfl (by show rCd s3 e (RA e code ++ []); rw [List.append_nil]; exact f2.2.2.1) fO.rf
      have hC : cf_188 N X (cf_S0 N X (F + 4)) t = ko_call 5 (cf_189 N X (cf_S0 N X (F + 3)) t4) (fun g1 v1 => co_v v1 (cf_188_44 N X (cf_S0 N X (F + 4)) (Int32.ofNat (TL b n)[i].2.2.2.1) g1)) := by
        unfold cf_188 cf_188_0 cf_188_7 cf_188_15
        simp (disch := omega) only [ev_S, ev_C, ↓reduceIte, Nat.reduceEqDiff, Nat.reduceLeDiff, Nat.reduceAdd, Nat.reduceMul, Nat.reduceSub, reduceCtorEq, l32_0, l32_1, l32_2, l32_3, l32_4, l32_5, l32_6, l32_7, l32_8, l32_9, l32_10, l32_11, l32_12, l32_13, l32_14, l32_15, l32_16, l32_17, l32_18, l32_19, l32_20, l32_21, l32_22, l32_23, l32_24, l32_25, l32_26, l32_27, l32_28, l32_29, l32_33, l32_40, l32_41, l32_44, l32_45, l32_59, l32_61, l32_91, l32_93, l32_123, l32_125, kn, k1, pn]
        unfold cf_188_22 cf_188_29 cf_188_39
        simp (disch := omega) only [ev_S, ev_C, ↓reduceIte, Nat.reduceEqDiff, Nat.reduceLeDiff, Nat.reduceAdd, Nat.reduceMul, Nat.reduceSub, reduceCtorEq, l32_0, l32_1, l32_2, l32_3, l32_4, l32_5, l32_6, l32_7, l32_8, l32_9, l32_10, l32_11, l32_12, l32_13, l32_14, l32_15, l32_16, l32_17, l32_18, l32_19, l32_20, l32_21, l32_22, l32_23, l32_24, l32_25, l32_26, l32_27, l32_28, l32_29, l32_33, l32_40, l32_41, l32_44, l32_45, l32_59, l32_61, l32_91, l32_93, l32_123, l32_125, d1, hP3, hp, f1]
        rfl
      rw [hC]
      rcases p_idx (al := al) hN hX hY hS0 hS1 hS2 hS3 g1 w3 (by omega) hF (by rw [List.length_append, List.length_singleton]; omega) hne (fun _ _ => hyes s3 g1.2.2.2.2.1) with ⟨t8, s8, k8, i8, seg8, vs8, cl8, z1, z2, z3, z4, z5, z6, z7⟩ | ⟨t8, s8, k8, z1, z2, z3, z4, z5⟩
      · rw [z1]
        have hP8 : kP t8 2 1 = some p := z5.2.1.1
        obtain ⟨t9, q1, q2, q3⟩ := z5.em1 (N := N) (X := X) (c := (3, 0, 0, 0, Int32.ofNat (TL b n)[i].2.2.2.1, 0, 0)) (cu' := 0 :: cu) (D' := D) (k := Int32.ofNat 19) (a := Int32.ofNat 45) (v := Int32.ofNat (TL b n)[i].2.2.2.1) rfl (Or.inr (Or.inl (Nat.zero_le _))) rfl (by unfold okI; simp) (by omega) (Or.inl (by unfold rlen xlen; simp))
        refine Or.inl ⟨t9, s8, k8 + 1, i8, [(2, 0, 0, 0, Int32.ofNat (TL b n)[i].2.2.2.1, 0, 0)] ++ seg8 ++ [(3, 0, 0, 0, Int32.ofNat (TL b n)[i].2.2.2.1, 0, 0)], code ++ [(2, 0, 0, 0, Int32.ofNat (TL b n)[i].2.2.2.1, 0, 0)] ++ seg8, vs8, cl8, [], some ((TL b n)[i].1, (TL b n)[i].2.2.2.1), ?_, by omega, by omega, fun f => ?_, ?_, ?_, hoA, fun z hz => (by cases hz), fun hi8 => ⟨z6 hi8, ?_⟩, hall.tr (f3.tr (z7.tr q3))⟩
        · show cf_188_44 N X (cf_S0 N X (F + 4)) (Int32.ofNat (TL b n)[i].2.2.2.1) t8 = _
          unfold cf_188_44 cf_188_56 cf_188_109
          simp (disch := omega) only [ev_S, ev_C, ↓reduceIte, Nat.reduceEqDiff, Nat.reduceLeDiff, Nat.reduceAdd, Nat.reduceMul, Nat.reduceSub, reduceCtorEq, l32_0, l32_1, l32_2, l32_3, l32_4, l32_5, l32_6, l32_7, l32_8, l32_9, l32_10, l32_11, l32_12, l32_13, l32_14, l32_15, l32_16, l32_17, l32_18, l32_19, l32_20, l32_21, l32_22, l32_23, l32_24, l32_25, l32_26, l32_27, l32_28, l32_29, l32_33, l32_40, l32_41, l32_44, l32_45, l32_59, l32_61, l32_91, l32_93, l32_123, l32_125, hP8, hp, q1]
        · rw [← Nat.add_assoc, hLL]
          exact z4 f
        · show PE b n p e i8 op D (code ++ ([(2, 0, 0, 0, Int32.ofNat (TL b n)[i].2.2.2.1, 0, 0)] ++ seg8 ++ [(3, 0, 0, 0, Int32.ofNat (TL b n)[i].2.2.2.1, 0, 0)])) (code ++ [(2, 0, 0, 0, Int32.ofNat (TL b n)[i].2.2.2.1, 0, 0)] ++ seg8) vs8 cl8 (W ++ [] ++ [(2, (TL b n)[i].1, 0, (TL b n)[i].2.2.2.1, 0, 0)]) (0 :: cu) fs t9 s8
          rw [List.append_nil, ← List.append_assoc, ← List.append_assoc]
          exact q2
        · show code ++ ([(2, 0, 0, 0, Int32.ofNat (TL b n)[i].2.2.2.1, 0, 0)] ++ seg8 ++ [(3, 0, 0, 0, Int32.ofNat (TL b n)[i].2.2.2.1, 0, 0)]) = (code ++ [(2, 0, 0, 0, Int32.ofNat (TL b n)[i].2.2.2.1, 0, 0)] ++ seg8) ++ [(if (TL b n)[i].1 = 45 then 3 else 4, 0, 0, 0, Int32.ofNat (TL b n)[i].2.2.2.1, 0, 0)] ++ []
          rw [if_pos c45, List.append_nil, ← List.append_assoc, ← List.append_assoc]
        · rcases lv_le (TL b n)[i8].1 with y | y
          · exact Or.inl y
          · exact Or.inr (Or.inl y)
      · refine Or.inr ⟨t8, s8, k8 + 1, by rw [z1]; rfl, by omega, fun f => ?_, z4, hall.pre (f3.pre z5)⟩
        rw [← Nat.add_assoc, hLL]
        exact z3 f
    · have c33 : (TL b n)[i].1 = 33 := by omega
      have k1 := hck2.mpr c33
      have hC : cf_188 N X (cf_S0 N X (F + 4)) t = ko_call 5 (cf_189 N X (cf_S0 N X (F + 3)) t3) (fun g1 v1 => co_v v1 (cf_188_77 N X (cf_S0 N X (F + 4)) (Int32.ofNat (TL b n)[i].2.2.2.1) g1)) := by
        unfold cf_188 cf_188_0 cf_188_7 cf_188_15 cf_188_60
        simp (disch := omega) only [ev_S, ev_C, ↓reduceIte, Nat.reduceEqDiff, Nat.reduceLeDiff, Nat.reduceAdd, Nat.reduceMul, Nat.reduceSub, reduceCtorEq, l32_0, l32_1, l32_2, l32_3, l32_4, l32_5, l32_6, l32_7, l32_8, l32_9, l32_10, l32_11, l32_12, l32_13, l32_14, l32_15, l32_16, l32_17, l32_18, l32_19, l32_20, l32_21, l32_22, l32_23, l32_24, l32_25, l32_26, l32_27, l32_28, l32_29, l32_33, l32_40, l32_41, l32_44, l32_45, l32_59, l32_61, l32_91, l32_93, l32_123, l32_125, kn, k1, pn]
        unfold cf_188_66 cf_188_73
        simp (disch := omega) only [ev_S, ev_C, ↓reduceIte, Nat.reduceEqDiff, Nat.reduceLeDiff, Nat.reduceAdd, Nat.reduceMul, Nat.reduceSub, reduceCtorEq, l32_0, l32_1, l32_2, l32_3, l32_4, l32_5, l32_6, l32_7, l32_8, l32_9, l32_10, l32_11, l32_12, l32_13, l32_14, l32_15, l32_16, l32_17, l32_18, l32_19, l32_20, l32_21, l32_22, l32_23, l32_24, l32_25, l32_26, l32_27, l32_28, l32_29, l32_33, l32_40, l32_41, l32_44, l32_45, l32_59, l32_61, l32_91, l32_93, l32_123, l32_125, d1]
        rfl
      rw [hC]
      rcases p_idx (al := al) hN hX hY hS0 hS1 hS2 hS3 d3 w3 (by omega) hF (by rw [List.length_append, List.length_singleton]; omega) hne (fun _ _ => hyes s3 d3.2.2.2.2.1) with ⟨t8, s8, k8, i8, seg8, vs8, cl8, z1, z2, z3, z4, z5, z6, z7⟩ | ⟨t8, s8, k8, z1, z2, z3, z4, z5⟩
      · rw [z1]
        have hP8 : kP t8 2 1 = some p := z5.2.1.1
        have hp : (p = 12 ∨ p = 21) = True := eq_true z5.2.1.2.1
        have hrm : rmG t8 := z5.1.1.2.2.2.2.2.2.2
        obtain ⟨hi8, _, _, _, _, _, _, _, _⟩ := z5.1.now
        have hcx := z5.2.2.2.2.2.2.2.2.2.2.2.2
        obtain ⟨t9, q1, q2, q3, q4⟩ := c_emit (N := N) (X := X) (k := Int32.ofNat 0) (a := Int32.ofNat 0) (v := Int32.ofNat (TL b n)[i].2.2.2.1) z5.2.1 hrm (by rw [CA_len]; omega)
        have hP9 : kP t9 2 1 = some p := q2.1
        obtain ⟨t10, u1, u2, u3, u4⟩ := c_emit (N := N) (X := X) (k := Int32.ofNat 19) (a := Int32.ofNat 317) (v := Int32.ofNat (TL b n)[i].2.2.2.1) q2 (q3.rm hrm) (by rw [List.length_append, CA_len, List.length_singleton]; omega)
        rw [List.append_assoc] at u2
        obtain ⟨y1, y2⟩ := z5.cEm (c := (4, 0, 0, 0, Int32.ofNat (TL b n)[i].2.2.2.1, 0, 0)) (t' := t10) (cu' := 0 :: cu) (D' := D) (Or.inr (Or.inl (Nat.zero_le _))) rfl (by unfold okI; simp) u2 (q3.tr u3) (u4.trans q4) (by omega) (Or.inl (by unfold rlen xlen; simp))
        refine Or.inl ⟨t10, s8, k8 + 1, i8, seg8 ++ [(4, 0, 0, 0, Int32.ofNat (TL b n)[i].2.2.2.1, 0, 0)], code ++ seg8, vs8, cl8, [], some ((TL b n)[i].1, (TL b n)[i].2.2.2.1), ?_, by omega, by omega, fun f => ?_, ?_, ?_, hoA, fun z hz => (by cases hz), fun hi8 => ⟨z6 hi8, ?_⟩, hall.tr (z7.tr y2)⟩
        · show cf_188_77 N X (cf_S0 N X (F + 4)) (Int32.ofNat (TL b n)[i].2.2.2.1) t8 = _
          unfold cf_188_77 cf_188_87 cf_188_101 cf_188_109
          simp (disch := omega) only [ev_S, ev_C, ↓reduceIte, Nat.reduceEqDiff, Nat.reduceLeDiff, Nat.reduceAdd, Nat.reduceMul, Nat.reduceSub, reduceCtorEq, l32_0, l32_1, l32_2, l32_3, l32_4, l32_5, l32_6, l32_7, l32_8, l32_9, l32_10, l32_11, l32_12, l32_13, l32_14, l32_15, l32_16, l32_17, l32_18, l32_19, l32_20, l32_21, l32_22, l32_23, l32_24, l32_25, l32_26, l32_27, l32_28, l32_29, l32_33, l32_40, l32_41, l32_44, l32_45, l32_59, l32_61, l32_91, l32_93, l32_123, l32_125, hP8, hp, q1, hP9, l32_317, u1]
        · rw [← Nat.add_assoc, hLL]
          exact z4 f
        · show PE b n p e i8 op D (code ++ (seg8 ++ [(4, 0, 0, 0, Int32.ofNat (TL b n)[i].2.2.2.1, 0, 0)])) (code ++ seg8) vs8 cl8 (W ++ [] ++ [(2, (TL b n)[i].1, 0, (TL b n)[i].2.2.2.1, 0, 0)]) (0 :: cu) fs t10 s8
          rw [List.append_nil, ← List.append_assoc]
          exact y1
        · show code ++ (seg8 ++ [(4, 0, 0, 0, Int32.ofNat (TL b n)[i].2.2.2.1, 0, 0)]) = (code ++ seg8) ++ [(if (TL b n)[i].1 = 45 then 3 else 4, 0, 0, 0, Int32.ofNat (TL b n)[i].2.2.2.1, 0, 0)] ++ []
          rw [if_neg c45, List.append_nil, ← List.append_assoc]
        · rcases lv_le (TL b n)[i8].1 with y | y
          · exact Or.inl y
          · exact Or.inr (Or.inl y)
      · refine Or.inr ⟨t8, s8, k8 + 1, by rw [z1]; rfl, by omega, fun f => ?_, z4, hall.pre z5⟩
        rw [← Nat.add_assoc, hLL]
        exact z3 f
  · have k1 : ¬ ck (TL b n)[i] = 45 := fun y => c (Or.inl (hck1.mp y))
    have k2 : ¬ ck (TL b n)[i] = 33 := fun y => c (Or.inr (hck2.mp y))
    have hC : cf_188 N X (cf_S0 N X (F + 4)) t = ko_call 5 (cf_189 N X (cf_S0 N X (F + 3)) t) (fun g1 v1 => co_v v1 (some (g1, .inl none))) := by
      unfold cf_188 cf_188_0 cf_188_7 cf_188_15 cf_188_60
      simp (disch := omega) only [ev_S, ev_C, ↓reduceIte, Nat.reduceEqDiff, Nat.reduceLeDiff, Nat.reduceAdd, Nat.reduceMul, Nat.reduceSub, reduceCtorEq, l32_0, l32_1, l32_2, l32_3, l32_4, l32_5, l32_6, l32_7, l32_8, l32_9, l32_10, l32_11, l32_12, l32_13, l32_14, l32_15, l32_16, l32_17, l32_18, l32_19, l32_20, l32_21, l32_22, l32_23, l32_24, l32_25, l32_26, l32_27, l32_28, l32_29, l32_33, l32_40, l32_41, l32_44, l32_45, l32_59, l32_61, l32_91, l32_93, l32_123, l32_125, kn, k1, k2, pn]
      rfl
    rw [hC]
    rcases p_idx (al := al) hN hX hY hS0 hS1 hS2 hS3 h hwn hD1 hF (by omega) ha (fun _ y => absurd y c) with ⟨t8, s8, k8, i8, seg8, vs8, cl8, z1, z2, z3, z4, z5, z6, z7⟩ | ⟨t8, s8, k8, z1, z2, z3, z4, z5⟩
    · refine Or.inl ⟨t8, s8, k8, i8, seg8, code ++ seg8, vs8, cl8, [], none, by rw [z1]; rfl, z2, z3, z4, ?_, ?_, trivial, fun z hz => (by cases hz), fun hi8 => ⟨z6 hi8, ?_⟩, z7⟩
      · show PE b n p e i8 op D (code ++ seg8) (code ++ seg8) vs8 cl8 (W ++ [] ++ []) (0 :: cu) fs t8 s8
        rw [List.append_nil, List.append_nil]
        exact z5
      · show code ++ seg8 = code ++ seg8 ++ [] ++ []
        rw [List.append_nil, List.append_nil]
      · rcases lv_le (TL b n)[i8].1 with y | y
        · exact Or.inl y
        · exact Or.inr (Or.inl y)
    · exact Or.inr ⟨t8, s8, k8, by rw [z1]; rfl, z2, z3, z4, z5⟩
end UNA
end
-- ### 92j.pure.lean.txt
section
/-! ===== PURE: expressions are read alike ===== -/
section EXP
variable {N : Nat} {X : Nat → Option zz_C} {t t' : cS} {s s' s0 s1 s2 : mS} {b : Nat → Nat} {n p e i i0 op D D' : Nat} {code code1 code2 fl : List Ins} {vs : List (List Nat)} {cl : List Cn} {W W' : List Wt} {cu cu' : List Nat} {fs : Nat × Nat × Nat} {al : Int32} {rk : Nat → List Value → cS → kO} {Z : List (Nat × Nat)} {ah : Option (Nat × Nat)}
theorem HW.nA {l : Nat} (hs : HW l W) : ∀ W' w, W ++ Z.map bt = W' ++ [w] → ¬ w.1 = 2 := by
  intro W' w hw hw2
  rcases List.eq_nil_or_concat Z with c | ⟨Z', z, c⟩
  · rw [c] at hw
    have hw : W ++ [] = W' ++ [w] := hw
    rw [List.append_nil] at hw
    rcases hs with z | ⟨W1, w1, z1, z2⟩
    · rw [z] at hw
      simp at hw
    · rw [z1] at hw
      have hq := (List.append_inj' hw rfl).2
      have hq2 : w1 = w := by injection hq
      rw [hq2] at z2
      rcases z2 with z2 | ⟨z, z2, z3, z4⟩
      · omega
      · rw [z2] at hw2
        exact absurd (show (1 : Nat) = 2 from hw2) (by decide)
  · rw [List.concat_eq_append] at c
    rw [c, List.map_append, ← List.append_assoc] at hw
    have hq := (List.append_inj' hw rfl).2
    have hq2 : bt z = w := by injection hq
    rw [← hq2] at hw2
    exact absurd (show (1 : Nat) = 2 from hw2) (by decide)
theorem okI_tw {nv : Nat} {z : Nat × Nat} (h1 : okS z.1) (h2 : lv z.1 ≤ 3) : okI nv (twI z) := by
  unfold okI twI
  simp only [Nat.reduceEqDiff, false_implies, or_self, true_and, and_true, forall_const, true_implies]
  exact ⟨h1, h2⟩
/-- signs of a level -/
theorem p_exL {F l : Nat} (hN : 170000 ≤ N) (hSX : SX N X b n p e F) (hl : l ≤ 3) (hF : 10 * (10 - op) + (10 - (l + 1)) ≤ F) (hWl : W.length ≤ 6 * op + l) (ha : al = 0 ∨ ¬ W = []) (hs : HW l W) : ∀ (d i : Nat) (code code1 : List Ins) (vs : List (List Nat)) (cl : List Cn) (Z : List (Nat × Nat)) (ah : Option (Nat × Nat)) (t : cS) (s : mS) (m most Q : Nat), (TL b n).length ≤ i + d → PE b n p e i op D code code1 vs cl (W ++ Z.map bt ++ ahW ah) (0 :: cu) fs t s → rWn s → code = code1 ++ ahI ah ++ Z.reverse.map twI → okA ah → (∀ z ∈ Z, okS z.1 ∧ l ≤ lv z.1 ∧ lv z.1 ≤ 3) → (l = 1 → m = 0 → ∀ z ∈ Z, 2 ≤ lv z.1) → (∀ hi : i < (TL b n).length, PZ (l + 1) Z (TL b n)[i].1) → (l = 1 → most = 1) → (¬ l = 1 → most = (TL b n).length) → (l = 1 → 1 ≤ m → one1 Z) → m ≤ i → d < Q → 1 ≤ D → (∃ t' s' k i' seg code1 vs' cl' Z ah, cf_186_L1 N X (cf_S0 N X F) Q 0 (Int32.ofNat l) (Int32.ofNat most) (Int32.ofNat m) t = some (t', .inl none) ∧ i ≤ i' ∧ k + i ≤ i' ∧ (∀ f, LL N (f + k) al (Int32.ofNat 1) s = LL N f al (Int32.ofNat 1) s') ∧ PE b n p e i' op D (code ++ seg) code1 vs' cl' (W ++ Z.map bt ++ ahW ah) (0 :: cu) fs t' s' ∧ code ++ seg = code1 ++ ahI ah ++ Z.reverse.map twI ∧ okA ah ∧ (∀ z ∈ Z, okS z.1 ∧ l ≤ lv z.1 ∧ lv z.1 ≤ 3) ∧ (∀ hi : i' < (TL b n).length, PZ l Z (TL b n)[i'].1) ∧ FR p e t t' s s') ∨ FLT N b n p e i al (Int32.ofNat 1) t s (cf_186_L1 N X (cf_S0 N X F) Q 0 (Int32.ofNat l) (Int32.ofNat most) (Int32.ofNat m) t) := by
  have eL : ∀ Q x1 x2 x3 t, cf_186_L1 N X (cf_S0 N X F) (Q + 1) 0 x1 x2 x3 t = cf_186_36 N X (cf_S0 N X F) (cf_186_L1 N X (cf_S0 N X F) Q) x1 x2 x3 t := fun _ _ _ _ _ => rfl
  intro d
  induction d with
  | zero =>
    intro i code code1 vs cl Z ah t s m most Q hd h
    obtain ⟨hi, _⟩ := h.1.now
    omega
  | succ d ih =>
    intro i code code1 vs cl Z ah t s m most Q hd h hwn hf hA hz hz2 hk hm1 hm2 ho1 hmi hdQ hD1
    obtain ⟨Q, rfl⟩ : ∃ Q', Q = Q' + 1 := ⟨Q - 1, by omega⟩
    obtain ⟨hi, e5, e6, e7, hkk, ho, he, hlt, hll⟩ := h.1.now
    have hop := h.1.2.2.2.1
    have h9 : s.1 9 = Int32.ofNat 0 := h.1.2.2.2.2.2.2.2.2.2
    have h5 := h.2.2.2.2.1
    have kn : cf_42 N X t = some (t, .inl (some (.int (Int32.ofNat (ck (TL b n)[i]))))) := by rw [c_kindNow, e5]
    have pn : cf_243 N X t = some (t, .inl (some (.int (Int32.ofNat (TL b n)[i].2.2.2.1)))) := by rw [c_placeNow, e6]
    -- the level that the class sees
    have hlc : cf_187 N X (Int32.ofNat (ck (TL b n)[i])) t = some (t, .inl (some (.int (lvI (TL b n)[i].1)))) := by
      by_cases z : 33 ≤ (TL b n)[i].1
      · have e1 : ck (TL b n)[i] = (TL b n)[i].1 := if_neg (by omega)
        rw [e1]
        exact c_levelOf (Or.inr (TL_sg hi z))
      · have z2 : ck (TL b n)[i] < 33 := by
          unfold ck
          split
          · split <;> omega
          · omega
        rw [c_levelOf (Or.inl z2)]
        have q1 : lv (ck (TL b n)[i]) = 9 := by
          unfold lv
          rw [if_neg (by omega), if_neg (by omega), if_neg (by omega), if_neg (by omega)]
        have q2 : lv (TL b n)[i].1 = 9 := by
          unfold lv
          rw [if_neg (by omega), if_neg (by omega), if_neg (by omega), if_neg (by omega)]
        unfold lvI
        rw [q1, q2]
    obtain ⟨hk0, hk1⟩ := hk hi
    have stop : cf_186_L1 N X (cf_S0 N X F) (Q + 1) 0 (Int32.ofNat l) (Int32.ofNat most) (Int32.ofNat m) t = some (t, .inl none) → (lv (TL b n)[i].1 = l → l = 1 ∧ one1 Z) → (∃ t' s' k i' seg code1 vs' cl' Z ah, cf_186_L1 N X (cf_S0 N X F) (Q + 1) 0 (Int32.ofNat l) (Int32.ofNat most) (Int32.ofNat m) t = some (t', .inl none) ∧ i ≤ i' ∧ k + i ≤ i' ∧ (∀ f, LL N (f + k) al (Int32.ofNat 1) s = LL N f al (Int32.ofNat 1) s') ∧ PE b n p e i' op D (code ++ seg) code1 vs' cl' (W ++ Z.map bt ++ ahW ah) (0 :: cu) fs t' s' ∧ code ++ seg = code1 ++ ahI ah ++ Z.reverse.map twI ∧ okA ah ∧ (∀ z ∈ Z, okS z.1 ∧ l ≤ lv z.1 ∧ lv z.1 ≤ 3) ∧ (∀ hi : i' < (TL b n).length, PZ l Z (TL b n)[i'].1) ∧ FR p e t t' s s') := fun hh h1 => by
      refine ⟨t, s, 0, i, [], code1, vs, cl, Z, ah, hh, by omega, by omega, fun f => rfl, by rw [List.append_nil]; exact h, by rw [List.append_nil]; exact hf, hA, hz, fun _ => ⟨hk0, ?_⟩, FR.rf⟩
      rcases hk1 with y | y | y
      · exact Or.inl y
      · by_cases c : lv (TL b n)[i].1 = l
        · obtain ⟨y1, y2⟩ := h1 c
          exact Or.inr (Or.inr ⟨by omega, y2⟩)
        · exact Or.inr (Or.inl (by omega))
      · exact Or.inr (Or.inr y)
    by_cases cm : most ≤ m
    · have l1 : l = 1 := by
        refine Classical.byContradiction fun y => ?_
        have := hm2 y
        omega
      refine Or.inl (stop ?_ (fun _ => ⟨l1, ho1 l1 (by have := hm1 l1; omega)⟩))
      have hmm : most < 2000 := by
        have := hm1 l1
        omega
      rw [eL]
      unfold cf_186_36 cf_186_107
      simp (disch := omega) only [ev_S, ev_C, ↓reduceIte, Nat.reduceEqDiff, Nat.reduceLeDiff, Nat.reduceAdd, Nat.reduceMul, Nat.reduceSub, reduceCtorEq, l32_0, l32_1, l32_2, l32_3, l32_4, l32_5, l32_6, l32_7, l32_8, l32_9, l32_10, l32_11, l32_12, l32_13, l32_14, l32_15, l32_16, l32_17, l32_18, l32_19, l32_20, l32_21, l32_22, l32_23, l32_24, l32_25, l32_26, l32_27, l32_28, l32_29, l32_33, l32_40, l32_41, l32_44, l32_45, l32_59, l32_61, l32_91, l32_93, l32_123, l32_125, cm]
    · have hmm : most < 2000 := by
        by_cases y : l = 1
        · have := hm1 y
          omega
        · have := hm2 y
          omega
      by_cases cl0 : lv (TL b n)[i].1 = l
      · -- a sign of this level
        have hsg : 33 ≤ (TL b n)[i].1 := by
          unfold lv at cl0
          repeat' split at cl0
          all_goals omega
        have hckS : ck (TL b n)[i] = (TL b n)[i].1 := if_neg (by omega)
        have hokS := TL_sg hi hsg
        have el : lvI (TL b n)[i].1 = Int32.ofNat l := by
          unfold lvI
          rw [cl0, if_neg (by omega)]
        rw [el] at hlc
        have hne44 : al = 0 ∨ ¬ s.1 44 = Int32.ofNat 0 := by
          rcases ha with y | y
          · exact Or.inl y
          · refine Or.inr fun x => ?_
            rw [h5.1] at x
            have l1 : 0 < W.length := List.length_pos_iff.mpr y
            have l2 := h5.2.1
            rw [ev_eq (by omega) (by omega)] at x
            rw [List.length_append, List.length_append] at x
            omega
        have g1 := r_isSign (N := N) (s := s) (c := 91) hkk (by decide) (by decide)
        rw [if_neg hk0] at g1
        obtain ⟨s1, a1, a2, a3⟩ := PE.ahf (N := N) (al := al) (fl := Z.reverse.map twI) h hA hf hs.nA
        have hmz : l = 1 → m = 0 := fun y => by
          have := hm1 y
          omega
        obtain ⟨t2, s2, b1, b2, ⟨_, b3⟩, b4⟩ := PE.sg (N := N) (X := X) (al := al) hN a2 hl (fun _ => cl0) hs (fun z hh => ⟨(hz z hh).1, (hz z hh).2.1, (hz z hh).2.2, fun y => hz2 y (hmz y) z hh⟩) hf (by omega)
        have hLL : ∀ f, LL N (f + 1) al (Int32.ofNat 1) s = LL N f al (Int32.ofNat 0) s2 := fun f => by
          show _ = LL N f al 0 s2
          rw [LL_1 h9 hne44, ← b2, ← a1]
          unfold mf_285_38 mf_285_44
          simp (disch := omega) only [ev_S, ev_P, ↓reduceIte, Nat.reduceEqDiff, Nat.reduceLeDiff, Nat.reduceAdd, Nat.reduceMul, Nat.reduceSub, reduceCtorEq, l32_0, l32_1, l32_2, l32_3, l32_4, l32_5, l32_6, l32_7, l32_8, l32_9, l32_10, l32_11, l32_12, l32_13, l32_14, l32_15, l32_16, l32_17, l32_18, l32_19, l32_20, l32_21, l32_22, l32_23, l32_24, l32_25, l32_26, l32_27, l32_28, l32_29, l32_33, l32_40, l32_41, l32_44, l32_45, l32_59, l32_61, l32_91, l32_93, l32_123, l32_125, g1]
        have hall : FR p e t t2 s s2 := a3.tr b4
        have w2 : rWn s2 := hwn.kp hall.2
        have hC : cf_186_L1 N X (cf_S0 N X F) (Q + 1) 0 (Int32.ofNat l) (Int32.ofNat most) (Int32.ofNat m) t = ko_call 5 (cf_S0 N X F 186 [.int (Int32.ofNat (l + 1))] t2) (fun g1 v1 => co_v v1 (cf_186_87 N X (cf_S0 N X F) (cf_186_L1 N X (cf_S0 N X F) Q) (Int32.ofNat l) (Int32.ofNat most) (Int32.ofNat m) (Int32.ofNat (TL b n)[i].1) (Int32.ofNat (TL b n)[i].2.2.2.1) g1)) := by
          rw [hckS] at kn hlc
          rw [eL]
          unfold cf_186_36 cf_186_41 cf_186_48 cf_186_51
          simp (disch := omega) only [ev_S, ev_C, ↓reduceIte, Nat.reduceEqDiff, Nat.reduceLeDiff, Nat.reduceAdd, Nat.reduceMul, Nat.reduceSub, reduceCtorEq, l32_0, l32_1, l32_2, l32_3, l32_4, l32_5, l32_6, l32_7, l32_8, l32_9, l32_10, l32_11, l32_12, l32_13, l32_14, l32_15, l32_16, l32_17, l32_18, l32_19, l32_20, l32_21, l32_22, l32_23, l32_24, l32_25, l32_26, l32_27, l32_28, l32_29, l32_33, l32_40, l32_41, l32_44, l32_45, l32_59, l32_61, l32_91, l32_93, l32_123, l32_125, cm, kn, hlc]
          unfold cf_186_55 cf_186_62 cf_186_71 cf_186_80
          simp (disch := omega) only [ev_S, ev_C, ↓reduceIte, Nat.reduceEqDiff, Nat.reduceLeDiff, Nat.reduceAdd, Nat.reduceMul, Nat.reduceSub, reduceCtorEq, l32_0, l32_1, l32_2, l32_3, l32_4, l32_5, l32_6, l32_7, l32_8, l32_9, l32_10, l32_11, l32_12, l32_13, l32_14, l32_15, l32_16, l32_17, l32_18, l32_19, l32_20, l32_21, l32_22, l32_23, l32_24, l32_25, l32_26, l32_27, l32_28, l32_29, l32_33, l32_40, l32_41, l32_44, l32_45, l32_59, l32_61, l32_91, l32_93, l32_123, l32_125, kn, pn, b1]
        rw [hC]
        have hne : al = 0 ∨ ¬ (W ++ [bt ((TL b n)[i].1, (TL b n)[i].2.2.2.1)]) = [] := Or.inr (by simp)
        rcases hSX (l + 1) (i + 1) op (D + 1) code vs cl (W ++ [bt ((TL b n)[i].1, (TL b n)[i].2.2.2.1)]) (0 :: cu) fs al t2 s2 (by omega) b3 w2 (Or.inr ⟨W, _, rfl, Or.inr ⟨_, rfl, hokS, by show lv (TL b n)[i].1 < l + 1; omega⟩⟩) (by rw [List.length_append, List.length_singleton]; omega) hne hF (by omega) with ⟨t4, s4, k4, i4, seg4, code4, vs4, cl4, Z4, ah4, x1, x2, x3, x4, x5, x6, x7, x8, x9, x10⟩ | ⟨t4, s4, k4, x1, x2, x3, x4, x5⟩
        · rw [x1]
          have hP4 : kP t4 2 1 = some p := x5.2.1.1
          have hp : (p = 12 ∨ p = 21) = True := eq_true x5.2.1.2.1
          obtain ⟨t5, q1, q2, q3⟩ := x5.em1 (N := N) (X := X) (c := twI ((TL b n)[i].1, (TL b n)[i].2.2.2.1)) (cu' := 0 :: cu) (D' := D) (k := Int32.ofNat 19) (a := Int32.ofNat (TL b n)[i].1) (v := Int32.ofNat (TL b n)[i].2.2.2.1) rfl (Or.inr (Or.inl (Nat.zero_le _))) rfl (okI_tw hokS (by show lv (TL b n)[i].1 ≤ 3; omega)) (by omega) (Or.inl (Nat.le_refl 1)) (by unfold xp noJ twI; simp)
          have hC2 : co_v none (cf_186_87 N X (cf_S0 N X F) (cf_186_L1 N X (cf_S0 N X F) Q) (Int32.ofNat l) (Int32.ofNat most) (Int32.ofNat m) (Int32.ofNat (TL b n)[i].1) (Int32.ofNat (TL b n)[i].2.2.2.1) t4) = cf_186_L1 N X (cf_S0 N X F) Q 0 (Int32.ofNat l) (Int32.ofNat most) (Int32.ofNat (m + 1)) t5 := by
            unfold cf_186_87 cf_186_100
            simp (disch := omega) only [ev_S, ev_C, ↓reduceIte, Nat.reduceEqDiff, Nat.reduceLeDiff, Nat.reduceAdd, Nat.reduceMul, Nat.reduceSub, reduceCtorEq, l32_0, l32_1, l32_2, l32_3, l32_4, l32_5, l32_6, l32_7, l32_8, l32_9, l32_10, l32_11, l32_12, l32_13, l32_14, l32_15, l32_16, l32_17, l32_18, l32_19, l32_20, l32_21, l32_22, l32_23, l32_24, l32_25, l32_26, l32_27, l32_28, l32_29, l32_33, l32_40, l32_41, l32_44, l32_45, l32_59, l32_61, l32_91, l32_93, l32_123, l32_125, hP4, hp, q1]
          have hC3 : ko_call 5 (some (t4, Sum.inl none)) (fun g1 v1 => co_v v1 (cf_186_87 N X (cf_S0 N X F) (cf_186_L1 N X (cf_S0 N X F) Q) (Int32.ofNat l) (Int32.ofNat most) (Int32.ofNat m) (Int32.ofNat (TL b n)[i].1) (Int32.ofNat (TL b n)[i].2.2.2.1) g1)) = cf_186_L1 N X (cf_S0 N X F) Q 0 (Int32.ofNat l) (Int32.ofNat most) (Int32.ofNat (m + 1)) t5 := hC2
          rw [hC3]
          have eW : W ++ [bt ((TL b n)[i].1, (TL b n)[i].2.2.2.1)] ++ Z4.map bt ++ ahW ah4 = W ++ (((TL b n)[i].1, (TL b n)[i].2.2.2.1) :: Z4).map bt ++ ahW ah4 := by simp
          rw [eW] at q2
          have w5 : rWn s4 := w2.kp x10.2
          have e6' : code ++ seg4 ++ [twI ((TL b n)[i].1, (TL b n)[i].2.2.2.1)] = code4 ++ ahI ah4 ++ (((TL b n)[i].1, (TL b n)[i].2.2.2.1) :: Z4).reverse.map twI := by
            rw [x6]
            simp
          rcases ih i4 (code ++ seg4 ++ [twI ((TL b n)[i].1, (TL b n)[i].2.2.2.1)]) code4 vs4 cl4 (((TL b n)[i].1, (TL b n)[i].2.2.2.1) :: Z4) ah4 t5 s4 (m + 1) most Q (by omega) q2 w5 e6' x7 (fun z hh => by
              rcases List.mem_cons.mp hh with y | y
              · rw [y]
                exact ⟨hokS, by show l ≤ lv (TL b n)[i].1; omega, by show lv (TL b n)[i].1 ≤ 3; omega⟩
              · exact ⟨(x8 z y).1, by have := (x8 z y).2.1; omega, (x8 z y).2.2⟩) (fun _ y => absurd y (by omega)) (fun hi4 => by
              obtain ⟨y1, y2⟩ := x9 hi4
              refine ⟨y1, ?_⟩
              rcases y2 with y2 | y2 | ⟨y2, Z1, z1, Z2, y3, y4, y5⟩
              · exact Or.inl y2
              · exact Or.inr (Or.inl y2)
              · exact Or.inr (Or.inr ⟨y2, _ :: Z1, z1, Z2, by rw [y3]; rfl, y4, y5⟩)) hm1 hm2 (fun y _ => ⟨[], _, Z4, rfl, by show lv (TL b n)[i].1 = 1; omega, fun z hh => by have := (x8 z hh).2.1; omega⟩) (by omega) (by omega) hD1 with ⟨t9, s9, k9, i9, seg9, code9, vs9, cl9, Z9, ah9, z1, z2, z3, z4, z5, z6, z7, z8, z9, z10⟩ | ⟨t9, s9, k9, z1, z2, z3, z4, z5⟩
          · refine Or.inl ⟨t9, s9, k9 + (k4 + 1), i9, seg4 ++ [twI ((TL b n)[i].1, (TL b n)[i].2.2.2.1)] ++ seg9, code9, vs9, cl9, Z9, ah9, z1, by omega, by omega, fun f => ?_, by rw [← List.append_assoc, ← List.append_assoc]; exact z5, by rw [← List.append_assoc, ← List.append_assoc]; exact z6, z7, z8, z9, hall.tr (x10.tr (q3.tr z10))⟩
            rw [show f + (k9 + (k4 + 1)) = (f + k9 + k4) + 1 by omega, hLL, x4]
            exact z4 f
          · refine Or.inr ⟨t9, s9, k9 + (k4 + 1), z1, by omega, fun f => ?_, z4, hall.pre (x10.pre (q3.pre z5))⟩
            rw [show f + (k9 + (k4 + 1)) = (f + k9 + k4) + 1 by omega, hLL, x4]
            exact z3 f
        · refine Or.inr ⟨t4, s4, k4 + 1, by rw [x1]; rfl, by omega, fun f => ?_, x4, hall.pre x5⟩
          rw [← Nat.add_assoc, hLL]
          exact x3 f
      · refine Or.inl (stop ?_ (fun y => absurd y cl0))
        have hnl : (lvI (TL b n)[i].1 = Int32.ofNat l) = False := by
          refine eq_false fun y => ?_
          unfold lvI at y
          split at y
          · exact absurd y (by rcases (show l = 0 ∨ l = 1 ∨ l = 2 ∨ l = 3 by omega) with z | z | z | z <;> subst z <;> decide)
          · rename_i c
            rcases lv_le (TL b n)[i].1 with z | z
            · exact c z
            · rw [ev_eq (by omega) (by omega)] at y
              exact cl0 y
        rw [eL]
        unfold cf_186_36 cf_186_41 cf_186_48 cf_186_51 cf_186_107
        simp (disch := omega) only [ev_S, ev_C, ↓reduceIte, Nat.reduceEqDiff, Nat.reduceLeDiff, Nat.reduceAdd, Nat.reduceMul, Nat.reduceSub, reduceCtorEq, l32_0, l32_1, l32_2, l32_3, l32_4, l32_5, l32_6, l32_7, l32_8, l32_9, l32_10, l32_11, l32_12, l32_13, l32_14, l32_15, l32_16, l32_17, l32_18, l32_19, l32_20, l32_21, l32_22, l32_23, l32_24, l32_25, l32_26, l32_27, l32_28, l32_29, l32_33, l32_40, l32_41, l32_44, l32_45, l32_59, l32_61, l32_91, l32_93, l32_123, l32_125, cm, kn, hlc, hnl]
/-- expressions are read alike, whatever the fuel -/
theorem p_SX (hN : 170000 ≤ N) (hX : oX N X) (hY : oY X) : ∀ F, SX N X b n p e F := by
  intro F
  induction F using Nat.strongRecOn with
  | ind F ih =>
    intro l i op D code vs cl W cu fs al t s hl h hwn hs hWl ha hF hD1
    have hop := h.1.2.2.2.1
    by_cases c : l = 4
    · subst c
      obtain ⟨F0, rfl⟩ : ∃ F0, F = F0 + 6 := ⟨F - 6, by omega⟩
      have hC : cf_S0 N X (F0 + 6) 186 [.int (Int32.ofNat 4)] t = ko_call 5 (cf_188 N X (cf_S0 N X (F0 + 4)) t) (fun g1 v1 => co_v v1 (some (g1, .inl none))) := by
        rw [show F0 + 6 = (F0 + 5) + 1 by omega, S0_186]
        unfold cf_186 cf_186_0 cf_186_5 cf_186_9
        simp (disch := omega) only [ev_S, ev_C, ↓reduceIte, Nat.reduceEqDiff, Nat.reduceLeDiff, Nat.reduceAdd, Nat.reduceMul, Nat.reduceSub, reduceCtorEq, l32_0, l32_1, l32_2, l32_3, l32_4, l32_5, l32_6, l32_7, l32_8, l32_9, l32_10, l32_11, l32_12, l32_13, l32_14, l32_15, l32_16, l32_17, l32_18, l32_19, l32_20, l32_21, l32_22, l32_23, l32_24, l32_25, l32_26, l32_27, l32_28, l32_29, l32_33, l32_40, l32_41, l32_44, l32_45, l32_59, l32_61, l32_91, l32_93, l32_123, l32_125]
        rfl
      rw [hC]
      rcases p_una (al := al) hN hX hY (ih F0 (by omega)) (ih (F0 + 1) (by omega)) (ih (F0 + 2) (by omega)) (ih (F0 + 3) (by omega)) h hwn hD1 (by omega) hWl hs ha with ⟨t4, s4, k4, i4, seg4, code4, vs4, cl4, Z4, ah4, x1, x2⟩ | ⟨t4, s4, k4, x1, x2⟩
      · exact Or.inl ⟨t4, s4, k4, i4, seg4, code4, vs4, cl4, Z4, ah4, by rw [x1]; rfl, x2⟩
      · exact Or.inr ⟨t4, s4, k4, by rw [x1]; rfl, x2⟩
    · obtain ⟨F0, rfl⟩ : ∃ F0, F = F0 + 1 := ⟨F - 1, by omega⟩
      have hl3 : l ≤ 3 := by omega
      have hC : cf_S0 N X (F0 + 1) 186 [.int (Int32.ofNat l)] t = ko_call 5 (cf_S0 N X F0 186 [.int (Int32.ofNat (l + 1))] t) (fun g1 v1 => co_v v1 (cf_186_17 N X (cf_S0 N X F0) (Int32.ofNat l) g1)) := by
        rw [S0_186]
        unfold cf_186 cf_186_0 cf_186_10
        simp (disch := omega) only [ev_S, ev_C, ↓reduceIte, Nat.reduceEqDiff, Nat.reduceLeDiff, Nat.reduceAdd, Nat.reduceMul, Nat.reduceSub, reduceCtorEq, l32_0, l32_1, l32_2, l32_3, l32_4, l32_5, l32_6, l32_7, l32_8, l32_9, l32_10, l32_11, l32_12, l32_13, l32_14, l32_15, l32_16, l32_17, l32_18, l32_19, l32_20, l32_21, l32_22, l32_23, l32_24, l32_25, l32_26, l32_27, l32_28, l32_29, l32_33, l32_40, l32_41, l32_44, l32_45, l32_59, l32_61, l32_91, l32_93, l32_123, l32_125, hl3]
      rw [hC]
      rcases ih F0 (by omega) (l + 1) i op D code vs cl W cu fs al t s (by omega) h hwn (hs.mono (by omega)) (by omega) ha (by omega) hD1 with ⟨t4, s4, k4, i4, seg4, code4, vs4, cl4, Z4, ah4, x1, x2, x3, x4, x5, x6, x7, x8, x9, x10⟩ | ⟨t4, s4, k4, x1, x2, x3, x4, x5⟩
      · rw [x1]
        obtain ⟨hi4, _, _, _, _, _, _, _, hll⟩ := x5.1.now
        have w4 : rWn s4 := hwn.kp x10.2
        have cnt : cf_41 N X t4 = some (t4, .inl (some (.int (Int32.ofNat (TL b n).length)))) := by rw [c_count, x5.1.cnt]
        have hC2 : ko_call 5 (some (t4, Sum.inl none)) (fun g1 v1 => co_v v1 (cf_186_17 N X (cf_S0 N X F0) (Int32.ofNat l) g1)) = cf_186_L1 N X (cf_S0 N X F0) N 0 (Int32.ofNat l) (Int32.ofNat (if l = 1 then 1 else (TL b n).length)) (Int32.ofNat 0) t4 := by
          by_cases c1 : l = 1
          · subst c1
            rw [if_pos rfl]
            unfold cf_186_17 cf_186_22 cf_186_33
            simp (disch := omega) only [ev_S, ev_C, ↓reduceIte, Nat.reduceEqDiff, Nat.reduceLeDiff, Nat.reduceAdd, Nat.reduceMul, Nat.reduceSub, reduceCtorEq, l32_0, l32_1, l32_2, l32_3, l32_4, l32_5, l32_6, l32_7, l32_8, l32_9, l32_10, l32_11, l32_12, l32_13, l32_14, l32_15, l32_16, l32_17, l32_18, l32_19, l32_20, l32_21, l32_22, l32_23, l32_24, l32_25, l32_26, l32_27, l32_28, l32_29, l32_33, l32_40, l32_41, l32_44, l32_45, l32_59, l32_61, l32_91, l32_93, l32_123, l32_125]
          · rw [if_neg c1]
            unfold cf_186_17 cf_186_26 cf_186_33
            simp (disch := omega) only [ev_S, ev_C, ↓reduceIte, Nat.reduceEqDiff, Nat.reduceLeDiff, Nat.reduceAdd, Nat.reduceMul, Nat.reduceSub, reduceCtorEq, l32_0, l32_1, l32_2, l32_3, l32_4, l32_5, l32_6, l32_7, l32_8, l32_9, l32_10, l32_11, l32_12, l32_13, l32_14, l32_15, l32_16, l32_17, l32_18, l32_19, l32_20, l32_21, l32_22, l32_23, l32_24, l32_25, l32_26, l32_27, l32_28, l32_29, l32_33, l32_40, l32_41, l32_44, l32_45, l32_59, l32_61, l32_91, l32_93, l32_123, l32_125, c1, cnt]
        rw [hC2]
        rcases p_exL (al := al) (D := D) (cu := cu) (fs := fs) hN (ih F0 (by omega)) hl3 (by omega) hWl ha hs (TL b n).length i4 (code ++ seg4) code4 vs4 cl4 Z4 ah4 t4 s4 0 (if l = 1 then 1 else (TL b n).length) N (by omega) x5 w4 x6 x7 (fun z hh => ⟨(x8 z hh).1, by have := (x8 z hh).2.1; omega, (x8 z hh).2.2⟩) (fun y _ z hh => by have := (x8 z hh).2.1; omega) x9 (fun y => if_pos y) (fun y => if_neg y) (fun _ y => absurd y (by decide)) (by omega) (by omega) hD1 with ⟨t9, s9, k9, i9, seg9, code9, vs9, cl9, Z9, ah9, z1, z2, z3, z4, z5, z6, z7, z8, z9, z10⟩ | ⟨t9, s9, k9, z1, z2, z3, z4, z5⟩
        · refine Or.inl ⟨t9, s9, k9 + k4, i9, seg4 ++ seg9, code9, vs9, cl9, Z9, ah9, z1, by omega, by omega, fun f => ?_, by rw [← List.append_assoc]; exact z5, by rw [← List.append_assoc]; exact z6, z7, z8, z9, x10.tr z10⟩
          rw [← Nat.add_assoc, x4]
          exact z4 f
        · refine Or.inr ⟨t9, s9, k9 + k4, z1, by omega, fun f => ?_, z4, x10.pre z5⟩
          rw [← Nat.add_assoc, x4]
          exact z3 f
      · exact Or.inr ⟨t4, s4, k4, by rw [x1]; rfl, x2, x3, x4, x5⟩
end EXP
end
-- ### 93a.pure.lean.txt
section
/-! ===== PURE: code is amended ===== -/
section AMD
variable {N : Nat} {X : Nat → Option zz_C} {t t' : cS} {s s' : mS} {e m : Nat} {code : List Ins} {c c' : Ins}
theorem flat_set {α : Type} {f g : Nat → List α} {n m : Nat} {a a' : α} {l : List α} (hm : m < n) (h : ∀ k, k < n → ¬ k = m → g k = f k) (hf : f m = a :: l) (hg : g m = a' :: l) : ((List.range n).flatMap f).set (((List.range m).flatMap f).length) a' = (List.range n).flatMap g := by
  obtain ⟨d, rfl⟩ : ∃ d, n = m + (1 + d) := ⟨n - m - 1, by omega⟩
  rw [List.range_add, List.flatMap_append, List.flatMap_append, List.set_append_right _ _ (Nat.le_refl _), Nat.sub_self]
  have e1 : (List.range m).flatMap f = (List.range m).flatMap g := flat_congr fun k hk => (h k (by have := List.mem_range.mp hk; omega) (by have := List.mem_range.mp hk; omega)).symm
  rw [e1]
  congr 1
  rw [List.range_add, List.map_append, List.flatMap_append, List.flatMap_append]
  have e2 : ∀ q : Nat → List α, ((List.range 1).map (m + ·)).flatMap q = q m := fun q => by
    show (q (m + 0) ++ []) = q m
    rw [List.append_nil]
    rfl
  rw [e2, e2, hf, hg]
  show a' :: l ++ _ = _
  congr 1
  refine flat_congr fun k hk => ?_
  obtain ⟨k1, hk1, hk2⟩ := List.mem_map.mp hk
  obtain ⟨k2, hk3, hk4⟩ := List.mem_map.mp hk1
  have := List.mem_range.mp hk3
  exact (h k (by omega) (by omega)).symm
theorem getD_set_ne {k : Nat} (h : ¬ k = m) : (code.set m c').getD k dI = code.getD k dI := by
  rw [List.getD_eq_getElem?_getD, List.getD_eq_getElem?_getD, List.getElem?_set_ne (fun z => h z.symm)]
theorem getD_set_eq (h : m < code.length) : (code.set m c').getD m dI = c' := by
  rw [List.getD_eq_getElem?_getD, List.getElem?_set_self h]
  rfl
theorem map_set_same {α : Type} {g : Ins → α} (h : g c' = g (code.getD m dI)) : (code.set m c').map g = code.map g := by
  rw [List.map_set]
  refine List.ext_getElem (by simp) (fun k h1 h2 => ?_)
  rw [List.getElem_set]
  split
  · rename_i z
    subst z
    have hk : m < code.length := by simpa using h2
    rw [h, List.getElem_map, List.getD_eq_getElem?_getD, List.getElem?_eq_getElem hk]
    rfl
  · rfl
theorem take_map_sum {g : Ins → Nat} {j : Nat} : ((code.take j).map g).sum = ((code.map g).take j).sum := by rw [List.map_take]
theorem posC_set {j : Nat} (h : clen c' = clen (code.getD m dI)) : posC (code.set m c') j = posC code j := by
  unfold posC
  rw [take_map_sum, take_map_sum, map_set_same h]
theorem posR_set {j : Nat} (h : rlen c' = rlen (code.getD m dI)) : posR (code.set m c') j = posR code j := by
  unfold posR
  rw [take_map_sum, take_map_sum, map_set_same h]
theorem cI_pos {code1 code2 : List Ins} {own : Nat} {x : Ins} (h : ∀ j, posC code1 j = posC code2 j) : cI code1 own x = cI code2 own x := by
  have e : ∀ j d, tgC code1 j d = tgC code2 j d := fun j d => by
    unfold tgC
    rw [h]
  obtain ⟨o, j, r, a, p, x, y⟩ := x
  unfold cI
  dsimp only
  rw [e]
theorem rI_pos {code1 code2 : List Ins} {x : Ins} (h : ∀ j, posR code1 j = posR code2 j) : rI e code1 x = rI e code2 x := by
  have e : ∀ j d, tgR e code1 j d = tgR e code2 j d := fun j d => by
    unfold tgR
    rw [h]
  obtain ⟨o, j, r, a, p, x, y⟩ := x
  unfold rI
  dsimp only
  rw [e]
theorem CA_pre : ((List.range m).flatMap fun k => cI code (posC code k) (code.getD k dI)).length = (((List.range m).map fun k => clen (code.getD k dI)).sum) := by
  rw [List.length_flatMap]
  exact congrArg List.sum (List.map_congr_left fun k _ => cI_len)
theorem RA_pre : ((List.range m).flatMap fun k => rI e code (code.getD k dI)).length = (((List.range m).map fun k => rlen (code.getD k dI)).sum) := by
  rw [List.length_flatMap]
  exact congrArg List.sum (List.map_congr_left fun k _ => rI_len)
theorem rng_take {g : Ins → Nat} (hm : m ≤ code.length) : (List.range m).map (fun k => g (code.getD k dI)) = (code.take m).map g := by
  refine List.ext_getElem (by simp; omega) (fun k h1 h2 => ?_)
  have hk : k < m := by simpa using h1
  rw [List.getElem_map, List.getElem_map, List.getElem_range, List.getElem_take, List.getD_eq_getElem?_getD, List.getElem?_eq_getElem (by omega)]
  rfl
/-- the class's acts, where one instruction is amended -/
theorem CA_set {a a' : C3} {l : List C3} (hm : m < code.length) (hl : clen c' = clen (code.getD m dI)) (h1 : cI code (posC code m) (code.getD m dI) = a :: l) (h2 : cI code (posC code m) c' = a' :: l) : CA (code.set m c') = (CA code).set (posC code m) a' := by
  have hp : ∀ j, posC (code.set m c') j = posC code j := fun j => posC_set hl
  unfold CA
  rw [List.length_set]
  have e0 : posC code m = ((List.range m).flatMap fun k => cI code (posC code k) (code.getD k dI)).length := by
    rw [CA_pre, rng_take (Nat.le_of_lt hm)]
    rfl
  rw [e0]
  refine (flat_set hm (fun k hk hne => ?_) h1 ?_).symm
  · show cI (code.set m c') (posC (code.set m c') k) ((code.set m c').getD k dI) = _
    rw [hp, getD_set_ne hne]
    exact cI_pos hp
  · show cI (code.set m c') (posC (code.set m c') m) ((code.set m c').getD m dI) = _
    rw [hp, getD_set_eq hm, cI_pos hp]
    exact h2
/-- and the reference's orders -/
theorem RA_set {a a' : R5} {l : List R5} (hm : m < code.length) (hl : rlen c' = rlen (code.getD m dI)) (h1 : rI e code (code.getD m dI) = a :: l) (h2 : rI e code c' = a' :: l) : RA e (code.set m c') = (RA e code).set (posR code m) a' := by
  have hp : ∀ j, posR (code.set m c') j = posR code j := fun j => posR_set hl
  unfold RA
  rw [List.length_set]
  have e0 : posR code m = ((List.range m).flatMap fun k => rI e code (code.getD k dI)).length := by
    rw [RA_pre, rng_take (Nat.le_of_lt hm)]
    rfl
  rw [e0]
  refine (flat_set hm (fun k hk hne => ?_) h1 ?_).symm
  · show rI e (code.set m c') ((code.set m c').getD k dI) = _
    rw [getD_set_ne hne]
    exact rI_pos hp
  · show rI e (code.set m c') ((code.set m c').getD m dI) = _
    rw [getD_set_eq hm, rI_pos hp]
    exact h2
/-- what stands in the acts at an instruction's begin -/
theorem flat_get {α : Type} {f : Nat → List α} {n m : Nat} {a : α} {l : List α} (hm : m < n) (hf : f m = a :: l) : ∃ h : ((List.range m).flatMap f).length < ((List.range n).flatMap f).length, ((List.range n).flatMap f)[((List.range m).flatMap f).length] = a := by
  obtain ⟨d, rfl⟩ : ∃ d, n = m + (1 + d) := ⟨n - m - 1, by omega⟩
  have e2 : ((List.range 1).map (m + ·)).flatMap f = f m := by
    show (f (m + 0) ++ []) = f m
    rw [List.append_nil]
    rfl
  have e3 : ∃ r, (List.range (m + (1 + d))).flatMap f = (List.range m).flatMap f ++ a :: r := by
    rw [List.range_add, List.flatMap_append, List.range_add, List.map_append, List.flatMap_append, e2, hf]
    exact ⟨_, rfl⟩
  obtain ⟨r, hr⟩ := e3
  refine ⟨by rw [hr, List.length_append, List.length_cons]; omega, ?_⟩
  simp only [hr]
  rw [List.getElem_append_right (Nat.le_refl _)]
  simp only [Nat.sub_self, List.getElem_cons_zero]
theorem CA_get {a : C3} {l : List C3} (hm : m < code.length) (h1 : cI code (posC code m) (code.getD m dI) = a :: l) : ∃ h : posC code m < (CA code).length, (CA code)[posC code m] = a := by
  have e0 : posC code m = ((List.range m).flatMap fun k => cI code (posC code k) (code.getD k dI)).length := by
    rw [CA_pre, rng_take (Nat.le_of_lt hm)]
    rfl
  obtain ⟨g1, g2⟩ := flat_get (f := fun k => cI code (posC code k) (code.getD k dI)) hm h1
  simp only [← e0] at g1 g2
  exact ⟨g1, g2⟩
theorem RA_get {a : R5} {l : List R5} (hm : m < code.length) (h1 : rI e code (code.getD m dI) = a :: l) : ∃ h : posR code m < (RA e code).length, (RA e code)[posR code m] = a := by
  have e0 : posR code m = ((List.range m).flatMap fun k => rI e code (code.getD k dI)).length := by
    rw [RA_pre, rng_take (Nat.le_of_lt hm)]
    rfl
  obtain ⟨g1, g2⟩ := flat_get (f := fun k => rI e code (code.getD k dI)) hm h1
  simp only [← e0] at g1 g2
  exact ⟨g1, g2⟩
theorem rl_set (h : rlen c' = rlen (code.getD m dI)) : rl (code.set m c') = rl code := by
  unfold rl
  rw [map_set_same h]
theorem xl_set (h : xlen c' = xlen (code.getD m dI)) : xl (code.set m c') = xl code := by
  unfold xl
  rw [map_set_same h]
theorem cx_set (h : clen c' = clen (code.getD m dI)) : cx (code.set m c') = cx code := by
  unfold cx
  rw [map_set_same h]
theorem lyo_set (h : ∀ L, eff c' L = eff (code.getD m dI) L) : lyo (code.set m c') = lyo code := by
  unfold lyo
  have key : ∀ (code : List Ins) (m : Nat) (L : List Nat), (∀ L, eff c' L = eff (code.getD m dI) L) → (code.set m c').foldlM (fun L c => eff c L) L = code.foldlM (fun L c => eff c L) L := by
    intro code
    induction code with
    | nil =>
      intro m L h
      rfl
    | cons x code ih =>
      intro m L h
      cases m with
      | zero =>
        have h : ∀ L, eff c' L = eff x L := h
        show (eff c' L).bind _ = (eff x L).bind _
        rw [h]
      | succ m =>
        have h : ∀ L, eff c' L = eff (code.getD m dI) L := fun L => by
          have := h L
          rw [List.getD_cons_succ] at this
          exact this
        show (eff x L).bind _ = (eff x L).bind _
        cases eff x L with
        | none => rfl
        | some L' => exact ih m L' h
  exact key code m [] h
theorem lyo_set_take {k : Nat} (h : ∀ L, eff c' L = eff (code.getD m dI) L) : lyo ((code.set m c').take k) = lyo (code.take k) := by
  rw [List.take_set]
  by_cases z : m < k
  · refine lyo_set (fun L => ?_)
    rw [h L]
    congr 1
    rw [List.getD_eq_getElem?_getD, List.getD_eq_getElem?_getD, List.getElem?_take_of_lt z]
  · rw [List.set_eq_of_length_le (by rw [List.length_take]; omega)]
end AMD
end
-- ### 93b.pure.lean.txt
section
/-! ===== PURE: statements (1): a word is passed; what the reference does behind a fault ===== -/
section WRD
variable {N : Nat} {X : Nat → Option zz_C} {t t' : cS} {s s' s1 s2 : mS} {b : Nat → Nat} {n p e i op D D' : Nat} {code code1 : List Ins} {vs : List (List Nat)} {cl : List Cn} {W : List Wt} {cu : List Nat} {fs : Nat × Nat × Nat}
theorem wix_wd {w : Nat} (hw : w < 41) : wix (wd w) = some w := by
  cases h : wix (wd w) with
  | none => exact absurd rfl (wix_none h w hw)
  | some i =>
    obtain ⟨h1, h2⟩ := wix_some h
    rw [wd_inj i w h1 hw h2]
/-- both pass this word, or fault -/
theorem p_word {w : Nat} (hN : 170000 ≤ N) (hX : oX N X) (hw : w < 41) (h : pR b n i op t s) : (∃ t' s', cf_200 N X (zz_out + (w + 1)) t = some (t', .inl none) ∧ mf_269 N (Int32.ofNat w) s = some (s', none) ∧ pR b n (i + 1) op t' s' ∧ gL eP a0 t t' ∧ fPs s s') ∨ (∃ t' s', cf_200 N X (zz_out + (w + 1)) t = some (t', .inr ()) ∧ mf_269 N (Int32.ofNat w) s = some (s', none) ∧ pF t' s' ∧ gX eP a0 t t' ∧ fPs s s') := by
  obtain ⟨hi, e5, e6, e7, hkk, ho, he, hlt, hll⟩ := h.now
  have h9 : s.1 9 = Int32.ofNat 0 := h.2.2.2.2.2.2.2.2.2
  have g1 := r_isWord (N := N) h.2.2.2.2.2.2.2.1 hw hkk
  have o2 : (zz_out < zz_out + (w + 1)) = True := eq_true (by omega)
  have o3 : (zz_out + (w + 1) ≤ zz_out + 41) = True := eq_true (by omega)
  by_cases z : (TL b n)[i].1 = 3 ∧ wix (TL b n)[i].2.2.1 = some w
  · obtain ⟨w1, w2, w3, w4⟩ := c_word (N := N) (X := X) hX h (fun _ => z)
    obtain ⟨t', s', a1, a2, a3, a4, a5⟩ := p_adv (N := N) (X := X) hN h (fun _ => by omega)
    have hff : cf_202 N X (Int32.ofNat 1) (Int32.ofNat 2) t = some (t, .inl none) := c_fine
    rw [if_pos ⟨z.1, (wix_some z.2).2.symm⟩] at g1
    refine Or.inl ⟨t', s', ?_, ?_, a3, a4, a5⟩
    · unfold cf_200 cf_200_0 cf_200_8 cf_200_12 cf_200_16 cf_200_20 cf_200_25 cf_200_29 cf_200_36
      simp (disch := omega) only [ev_S, ev_C, ↓reduceIte, Nat.reduceEqDiff, Nat.reduceLeDiff, Nat.reduceAdd, Nat.reduceMul, Nat.reduceSub, reduceCtorEq, l32_0, l32_1, l32_2, l32_3, l32_4, l32_5, l32_6, l32_7, l32_8, l32_9, l32_10, l32_11, l32_12, l32_13, l32_14, l32_15, l32_16, l32_17, l32_18, l32_19, l32_20, l32_21, l32_22, l32_23, l32_24, l32_25, l32_26, l32_27, l32_28, l32_29, l32_33, l32_40, l32_41, l32_44, l32_45, l32_59, l32_61, l32_91, l32_93, l32_123, l32_125, c_kindNow, w2, w1, o2, o3, ac_ne, hff, a1]
    · unfold mf_269 mf_269_0 mf_269_8 mf_269_13 mf_269_16 mf_269_20 mf_269_27
      simp (disch := omega) only [ev_S, ev_P, ↓reduceIte, Nat.reduceEqDiff, Nat.reduceLeDiff, Nat.reduceAdd, Nat.reduceMul, Nat.reduceSub, reduceCtorEq, l32_0, l32_1, l32_2, l32_3, l32_4, l32_5, l32_6, l32_7, l32_8, l32_9, l32_10, l32_11, l32_12, l32_13, l32_14, l32_15, l32_16, l32_17, l32_18, l32_19, l32_20, l32_21, l32_22, l32_23, l32_24, l32_25, l32_26, l32_27, l32_28, l32_29, l32_33, l32_40, l32_41, l32_44, l32_45, l32_59, l32_61, l32_91, l32_93, l32_123, l32_125, h9, g1, a2]
  · obtain ⟨t', s', a1, a2, a3, a4, a5⟩ := p_wrong (N := N) (X := X) h
    have a1 : cf_202 N X (Int32.ofNat 0) (Int32.ofNat 2) t = some (t', .inr ()) := a1
    rw [if_neg (fun y => z ⟨y.1, by rw [y.2]; exact wix_wd hw⟩)] at g1
    refine Or.inr ⟨t', s', ?_, ?_, a3, a4, a5⟩
    · by_cases y : ck (TL b n)[i] = 4
      · have y0 := ck4.mp y
        rcases y0 with ⟨y1, v, y2⟩ | y1
        · obtain ⟨w1, w2, w3, w4⟩ := c_word (N := N) (X := X) hX h (fun _ => ⟨y1, y2⟩)
          have hne : ¬ v = w := fun q => z ⟨y1, by rw [y2, q]⟩
          have o4 : (zz_out < zz_out + (v + 1)) = True := eq_true (by omega)
          have o5 : (zz_out + (v + 1) ≤ zz_out + 41) = True := eq_true (by omega)
          have o6 : (zz_out + (v + 1) = zz_out + (w + 1)) = False := eq_false (by omega)
          unfold cf_200 cf_200_0 cf_200_8 cf_200_12 cf_200_16 cf_200_24 cf_200_25
          simp (disch := omega) only [ev_S, ev_C, ↓reduceIte, Nat.reduceEqDiff, Nat.reduceLeDiff, Nat.reduceAdd, Nat.reduceMul, Nat.reduceSub, reduceCtorEq, l32_0, l32_1, l32_2, l32_3, l32_4, l32_5, l32_6, l32_7, l32_8, l32_9, l32_10, l32_11, l32_12, l32_13, l32_14, l32_15, l32_16, l32_17, l32_18, l32_19, l32_20, l32_21, l32_22, l32_23, l32_24, l32_25, l32_26, l32_27, l32_28, l32_29, l32_33, l32_40, l32_41, l32_44, l32_45, l32_59, l32_61, l32_91, l32_93, l32_123, l32_125, c_kindNow, w2, w1, o2, o3, o4, o5, o6, ac_ne, a1]
          rfl
        · rcases ho with q | q | q | q | q <;> omega
      · unfold cf_200 cf_200_0 cf_200_8 cf_200_24 cf_200_25
        simp (disch := omega) only [ev_S, ev_C, ↓reduceIte, Nat.reduceEqDiff, Nat.reduceLeDiff, Nat.reduceAdd, Nat.reduceMul, Nat.reduceSub, reduceCtorEq, l32_0, l32_1, l32_2, l32_3, l32_4, l32_5, l32_6, l32_7, l32_8, l32_9, l32_10, l32_11, l32_12, l32_13, l32_14, l32_15, l32_16, l32_17, l32_18, l32_19, l32_20, l32_21, l32_22, l32_23, l32_24, l32_25, l32_26, l32_27, l32_28, l32_29, l32_33, l32_40, l32_41, l32_44, l32_45, l32_59, l32_61, l32_91, l32_93, l32_123, l32_125, c_kindNow, e5, y, a1]
        rfl
    · unfold mf_269 mf_269_0 mf_269_8 mf_269_13 mf_269_23 mf_269_27
      simp (disch := omega) only [ev_S, ev_P, ↓reduceIte, Nat.reduceEqDiff, Nat.reduceLeDiff, Nat.reduceAdd, Nat.reduceMul, Nat.reduceSub, reduceCtorEq, l32_0, l32_1, l32_2, l32_3, l32_4, l32_5, l32_6, l32_7, l32_8, l32_9, l32_10, l32_11, l32_12, l32_13, l32_14, l32_15, l32_16, l32_17, l32_18, l32_19, l32_20, l32_21, l32_22, l32_23, l32_24, l32_25, l32_26, l32_27, l32_28, l32_29, l32_33, l32_40, l32_41, l32_44, l32_45, l32_59, l32_61, l32_91, l32_93, l32_123, l32_125, h9, g1, a2]
/-- what statements may change in the reference -/
def fS (e : Nat) (s s' : mS) : Prop := (∀ q, ¬ (q = 5 ∨ q = 6 ∨ q = 8 ∨ q = 9 ∨ q = 10 ∨ q = 11 ∨ q = 22 ∨ q = 28 ∨ q = 29 ∨ q = 37 ∨ q = 44) → s'.1 q = s.1 q) ∧ (∀ q, ¬ q = 7 → s'.2.1 q = s.2.1 q) ∧ (∀ q, ¬ (q = 23 ∨ q = 24 ∨ q = 25 ∨ q = 26 ∨ q = 27 ∨ q = 30 ∨ q = 31 ∨ q = 32 ∨ q = 34 ∨ q = 35 ∨ q = 36 ∨ q = 38 ∨ q = 39 ∨ q = 40 ∨ q = 41 ∨ q = 43) → s'.2.2.1 q = s.2.2.1 q) ∧ (∀ q, ¬ (q = 21 ∨ q = 33 ∨ q = 42) → s'.2.2.2 q = s.2.2.2 q) ∧ (∀ q y, (q = 23 ∨ q = 24 ∨ q = 25 ∨ q = 26 ∨ q = 27) → (y < ob0 e ∨ ob0 e + 4000 ≤ y) → s'.2.2.1 q y = s.2.2.1 q y) ∧ (Kd s → Kd s')
theorem fS.rf : fS e s s := ⟨fun _ _ => rfl, fun _ _ => rfl, fun _ _ => rfl, fun _ _ => rfl, fun _ _ _ _ => rfl, fun z => z⟩
theorem fS.tr (h : fS e s s1) (g : fS e s1 s2) : fS e s s2 := ⟨fun q r => (g.1 q r).trans (h.1 q r), fun q r => (g.2.1 q r).trans (h.2.1 q r), fun q r => (g.2.2.1 q r).trans (h.2.2.1 q r), fun q r => (g.2.2.2.1 q r).trans (h.2.2.2.1 q r), fun q y r1 r2 => (g.2.2.2.2.1 q y r1 r2).trans (h.2.2.2.2.1 q y r1 r2), fun z => g.2.2.2.2.2 (h.2.2.2.2.2 z)⟩
theorem fQ.S (h : fQ e s s') : fS e s s' := ⟨fun q r => h.1 q (by omega), h.2.1, fun q r => h.2.2.1 q (by omega), h.2.2.2.1, h.2.2.2.2⟩
/-- what a block changes -/
abbrev fBk (s s' : mS) : Prop := mfr (fun q => q = 37) (fun _ => False) (fun q => q = 34 ∨ q = 35 ∨ q = 36) (fun _ => False) s s'
theorem fBk.S (f : fBk s s') : fS e s s' := ⟨fun q r => f.1 q (by omega), fun q _ => f.2.1 q (fun z => z), fun q r => f.2.2.1 q (by omega), fun q _ => f.2.2.2 q (fun z => z), fun q y r _ => congrFun (f.2.2.1 q (by omega)) y, Kd.kp (f.1 44 (by omega)) (fun q _ => f.2.2.1 q (by omega)) (f.2.2.2 42 (fun z => z))⟩
/-- a fault is told; not many orders, not many blocks -/
def fU (e : Nat) (m : Nat) (s : mS) : Prop := (∃ x : Nat, 1 ≤ x ∧ x ≤ 6 ∧ s.1 9 = Int32.ofNat x) ∧ m ≤ 3000 ∧ s.1 28 = Int32.ofNat m ∧ e ≤ 1 ∧ s.1 12 = Int32.ofNat e ∧ ∃ B : Nat, B ≤ 11 ∧ s.1 37 = Int32.ofNat B
/-- what the reference does behind a fault -/
def tl (e : Nat) (s s' : mS) : Prop := s'.1 9 = s.1 9 ∧ s'.1 10 = s.1 10 ∧ fS e s s'
theorem tl.rf : tl e s s := ⟨rfl, rfl, fS.rf⟩
theorem tl.tr (h : tl e s s1) (g : tl e s1 s2) : tl e s s2 := ⟨g.1.trans h.1, g.2.1.trans h.2.1, h.2.2.tr g.2.2⟩
theorem r_opensF {x : Nat} {c : Int32} (h9 : s.1 9 = Int32.ofNat x) (hx : 1 ≤ x ∧ x ≤ 6) : mf_268 N c s = some (s, none) := by
  unfold mf_268 mf_268_0 mf_268_7
  simp (disch := omega) only [ev_S, ev_P, ↓reduceIte, Nat.reduceEqDiff, Nat.reduceLeDiff, Nat.reduceAdd, Nat.reduceMul, Nat.reduceSub, reduceCtorEq, l32_0, l32_1, l32_2, l32_3, l32_4, l32_5, l32_6, l32_7, l32_8, l32_9, l32_10, l32_11, l32_12, l32_13, l32_14, l32_15, l32_16, l32_17, l32_18, l32_19, l32_20, l32_21, l32_22, l32_23, l32_24, l32_25, l32_26, l32_27, l32_28, l32_29, l32_33, l32_40, l32_41, l32_44, l32_45, l32_59, l32_61, l32_91, l32_93, l32_123, l32_125, h9]
theorem r_wordF {x : Nat} {c : Int32} (h9 : s.1 9 = Int32.ofNat x) (hx : 1 ≤ x ∧ x ≤ 6) : mf_269 N c s = some (s, none) := by
  unfold mf_269 mf_269_0 mf_269_7
  simp (disch := omega) only [ev_S, ev_P, ↓reduceIte, Nat.reduceEqDiff, Nat.reduceLeDiff, Nat.reduceAdd, Nat.reduceMul, Nat.reduceSub, reduceCtorEq, l32_0, l32_1, l32_2, l32_3, l32_4, l32_5, l32_6, l32_7, l32_8, l32_9, l32_10, l32_11, l32_12, l32_13, l32_14, l32_15, l32_16, l32_17, l32_18, l32_19, l32_20, l32_21, l32_22, l32_23, l32_24, l32_25, l32_26, l32_27, l32_28, l32_29, l32_33, l32_40, l32_41, l32_44, l32_45, l32_59, l32_61, l32_91, l32_93, l32_123, l32_125, h9]
theorem r_nameF {x : Nat} (h9 : s.1 9 = Int32.ofNat x) (hx : 1 ≤ x ∧ x ≤ 6) : mf_275 N s = some (s, some (.int (Int32.ofNat 0))) := by
  unfold mf_275 mf_275_0 mf_275_7
  simp (disch := omega) only [ev_S, ev_P, ↓reduceIte, Nat.reduceEqDiff, Nat.reduceLeDiff, Nat.reduceAdd, Nat.reduceMul, Nat.reduceSub, reduceCtorEq, l32_0, l32_1, l32_2, l32_3, l32_4, l32_5, l32_6, l32_7, l32_8, l32_9, l32_10, l32_11, l32_12, l32_13, l32_14, l32_15, l32_16, l32_17, l32_18, l32_19, l32_20, l32_21, l32_22, l32_23, l32_24, l32_25, l32_26, l32_27, l32_28, l32_29, l32_33, l32_40, l32_41, l32_44, l32_45, l32_59, l32_61, l32_91, l32_93, l32_123, l32_125, h9]
theorem r_exprF {x : Nat} {al : Int32} (hN : 170000 ≤ N) (h9 : s.1 9 = Int32.ofNat x) (hx : 1 ≤ x ∧ x ≤ 6) : mf_285 N al s = some (mI s 44 0, none) := by
  show LL N N al 0 (mI s 44 0) = _
  obtain ⟨f, rfl⟩ : ∃ f, N = f + 1 := ⟨N - 1, by omega⟩
  exact LL_f (s := mI s 44 0) (x := x) h9 hx
theorem Kd_0 : Kd (mI s 44 0) := ⟨[], rfl, Nat.zero_le _, fun i hi => absurd hi (Nat.not_lt_zero _)⟩
theorem tl_44 : tl e s (mI s 44 0) := ⟨rfl, rfl, ⟨fun q r => if_neg (by omega), fun _ _ => rfl, fun _ _ => rfl, fun _ _ => rfl, fun _ _ _ _ => rfl, fun _ => Kd_0⟩⟩
theorem fU.e44 {m : Nat} {x : Int32} (h : fU e m s) : fU e m (mI s 44 x) := h
theorem r_orderF {m : Nat} {x1 x2 x3 x4 : Int32} (h : fU e m s) : ∃ s', mf_271 N x1 x2 x3 x4 s = some (s', some (.int (Int32.ofNat (ob0 e + m)))) ∧ tl e s s' ∧ (m + 1 ≤ 3000 → fU e (m + 1) s') := by
  obtain ⟨h1, h2, h3, h4, h5, B, h6, h7⟩ := h
  have hs : (Int32.ofNat 4000 * (Int32.ofNat 1 - Int32.ofNat e)) + Int32.ofNat m = Int32.ofNat (ob0 e + m) := by
    have : e = 0 ∨ e = 1 := by omega
    rcases this with rfl | rfl
    · show Int32.ofNat 4000 + Int32.ofNat m = Int32.ofNat (4000 + m)
      rw [i32add]
    · show Int32.ofNat 0 + Int32.ofNat m = Int32.ofNat (0 + m)
      rw [i32add]
  have ho : ob0 e ≤ 4000 := by unfold ob0; omega
  have key : mf_271 N x1 x2 x3 x4 s = some (mI (mA (mA (mA (mA (mA s 23 (upd (s.2.2.1 23) (ob0 e + m) x1)) 24 (upd (s.2.2.1 24) (ob0 e + m) x2)) 25 (upd (s.2.2.1 25) (ob0 e + m) x3)) 26 (upd (s.2.2.1 26) (ob0 e + m) 0)) 27 (upd (s.2.2.1 27) (ob0 e + m) x4)) 28 (Int32.ofNat (m + 1)), some (.int (Int32.ofNat (ob0 e + m)))) := by
    repeat ((first | unfold mf_271 | unfold mf_271_0); try simp (disch := omega) only [ev_S, ev_P, ↓reduceIte, Nat.reduceEqDiff, Nat.reduceLeDiff, Nat.reduceAdd, Nat.reduceMul, Nat.reduceSub, reduceCtorEq, l32_0, l32_1, l32_2, l32_3, l32_4, l32_12, l32_23, l32_24, l32_25, l32_26, l32_27, l32_28, l32_4000, l32_8000, h3, h5, l32_4000, l32_8000])
  refine ⟨_, key, ⟨rfl, rfl, ⟨fun q r => if_neg (by omega), fun _ _ => rfl, fun q r => ?_, fun _ _ => rfl, fun q y r1 r2 => ?_, ?_⟩⟩, fun hm => ⟨h1, hm, rfl, h4, h5, B, h6, h7⟩⟩
  · show (if q = 27 then _ else if q = 26 then _ else if q = 25 then _ else if q = 24 then _ else if q = 23 then _ else s.2.2.1 q) = _
    rw [if_neg (by omega), if_neg (by omega), if_neg (by omega), if_neg (by omega), if_neg (by omega)]
  · have hy : ¬ y = ob0 e + m := by omega
    rcases r1 with r1 | r1 | r1 | r1 | r1 <;> subst r1 <;> exact upd_n hy
  · exact Kd.kp rfl (fun q z => by show (if q = 27 then _ else if q = 26 then _ else if q = 25 then _ else if q = 24 then _ else if q = 23 then _ else s.2.2.1 q) = _; rw [if_neg (by omega), if_neg (by omega), if_neg (by omega), if_neg (by omega), if_neg (by omega)]) rfl
/-- a block is put up -/
theorem r_push {x1 x2 x3 : Int32} {B : Nat} (h : s.1 37 = Int32.ofNat B) (hB : B ≤ 11) : ∃ s', mf_276_6 N x1 x2 x3 s = some (s', none) ∧ fBk s s' ∧ s'.1 37 = Int32.ofNat (B + 1) ∧ (∀ q, q = 34 ∨ q = 35 ∨ q = 36 → ∀ k, ¬ k = B → s'.2.2.1 q k = s.2.2.1 q k) ∧ s'.2.2.1 34 B = x1 ∧ s'.2.2.1 35 B = x2 ∧ s'.2.2.1 36 B = x3 := by
  have hs : mf_276_6 N x1 x2 x3 s = some (mI (mA (mA (mA s 34 (upd (s.2.2.1 34) B x1)) 35 (upd (s.2.2.1 35) B x2)) 36 (upd (s.2.2.1 36) B x3)) 37 (Int32.ofNat (B + 1)), none) := by
    unfold mf_276_6
    simp (disch := omega) only [ev_S, ev_P, ↓reduceIte, Nat.reduceEqDiff, Nat.reduceLeDiff, Nat.reduceAdd, Nat.reduceMul, Nat.reduceSub, reduceCtorEq, l32_0, l32_1, l32_2, l32_3, l32_4, l32_5, l32_6, l32_7, l32_8, l32_9, l32_10, l32_11, l32_12, l32_13, l32_14, l32_15, l32_16, l32_17, l32_18, l32_19, l32_20, l32_21, l32_22, l32_23, l32_24, l32_25, l32_26, l32_27, l32_28, l32_29, l32_33, l32_40, l32_41, l32_44, l32_45, l32_59, l32_61, l32_91, l32_93, l32_123, l32_125, h]
  refine ⟨_, hs, ⟨fun q r => if_neg r, fun _ _ => rfl, fun q r => ?_, fun _ _ => rfl⟩, rfl, fun q r k hk => ?_, upd_s, upd_s, upd_s⟩
  · show (if q = 36 then _ else if q = 35 then _ else if q = 34 then _ else s.2.2.1 q) = _
    rw [if_neg (by omega), if_neg (by omega), if_neg (by omega)]
  · rcases r with r | r | r <;> subst r <;> exact upd_n hk
theorem r_blockF {m : Nat} {x1 x2 x3 : Int32} (h : fU e m s) : ∃ s', mf_276 N x1 x2 x3 s = some (s', none) ∧ tl e s s' := by
  obtain ⟨⟨x, hx1, hx2, h9⟩, h2, h3, h4, h5, B, h6, h7⟩ := h
  obtain ⟨s', a1, a2, -⟩ := r_push (N := N) (x1 := x1) (x2 := x2) (x3 := x3) h7 h6
  refine ⟨s', ?_, a2.1 9 (by omega), a2.1 10 (by omega), fBk.S a2⟩
  unfold mf_276 mf_276_0
  rw [r_opensF h9 ⟨hx1, hx2⟩]
  exact a1
theorem pF.tl (h : pF t s) (g : tl e s s') : pF t s' := h.post g.1 g.2.1
end WRD
end
-- ### 93c.pure.lean.txt
section
/-! ===== PURE: statements (2): whole expressions; rounds of the reference over the text ===== -/
def FRs (p e : Nat) (t t' : cS) (s s' : mS) : Prop := gL (eQ p) (aQ p) t t' ∧ fS e s s'
def FXs (p e : Nat) (t t' : cS) (s s' : mS) : Prop := gX (eQ p) (aQ p) t t' ∧ fS e s s' ∧ SZ p t'
/-- the open blocks -/
def rB (s : mS) (Bs : List (Int32 × Int32 × Int32)) : Prop := s.1 37 = Int32.ofNat Bs.length ∧ Bs.length ≤ 10 ∧ ∀ k (hk : k < Bs.length), s.2.2.1 34 k = Bs[k].1 ∧ s.2.2.1 35 k = Bs[k].2.1 ∧ s.2.2.1 36 k = Bs[k].2.2
abbrev TW (N f : Nat) (s : mS) : mO := mf_63_L1 N f 0 s
section STM
variable {N : Nat} {X : Nat → Option zz_C} {t t' t1 t2 : cS} {s s' s1 s2 : mS} {b : Nat → Nat} {n p e i op D D' : Nat} {code code1 : List Ins} {vs : List (List Nat)} {cl : List Cn} {W : List Wt} {cu : List Nat} {fs : Nat × Nat × Nat} {Bs : List (Int32 × Int32 × Int32)}
theorem FR.S (h : FR p e t t' s s') : FRs p e t t' s s' := ⟨h.1, h.2.S⟩
theorem FX.S (h : FX p e t t' s s') : FXs p e t t' s s' := ⟨h.1, h.2.1.S, h.2.2.2⟩
theorem FRs.rf : FRs p e t t s s := ⟨gL.rf, fS.rf⟩
theorem FRs.tr (h : FRs p e t t1 s s1) (g : FRs p e t1 t2 s1 s2) : FRs p e t t2 s s2 := ⟨h.1.tr g.1, h.2.tr g.2⟩
theorem FRs.pre (h : FRs p e t t1 s s1) (g : FXs p e t1 t2 s1 s2) : FXs p e t t2 s s2 := ⟨gX.pre h.1 g.1, h.2.tr g.2.1, g.2.2⟩
theorem FXs.tl (h : FXs p e t t' s s1) (g : tl e s1 s2) : FXs p e t t' s s2 := ⟨h.1, h.2.1.tr g.2.2, h.2.2⟩
theorem rB.kp (h : rB s Bs) (f : fQ e s s') : rB s' Bs := by
  obtain ⟨h1, h2, h3⟩ := h
  refine ⟨by rw [f.1 37 (by omega)]; exact h1, h2, fun k hk => ?_⟩
  rw [f.2.2.1 34 (by omega), f.2.2.1 35 (by omega), f.2.2.1 36 (by omega)]
  exact h3 k hk
theorem PE.fU (h : PE b n p e i op D code code1 vs cl W cu fs t s) (hb : rB s Bs) (hF : pF t' s') (hx : FX p e t t' s s') : ∃ m, m ≤ 1900 ∧ fU e m s' := by
  obtain ⟨x, y, v1, v2, v3, v4, v5, v6, v7⟩ := hF
  obtain ⟨m, h1, h2⟩ := hx.2.2.1
  have f := hx.2.1
  refine ⟨m, h1, ⟨x, v1, v2, v6⟩, by omega, h2, h.2.2.1.2.1, ?_, Bs.length, Nat.le_trans hb.2.1 (by omega), ?_⟩
  · rw [f.1 12 (by omega)]
    exact h.2.2.1.1
  · rw [f.1 37 (by omega)]
    exact hb.1
/-- blocks alone have changed -/
theorem PE.kS (h : PE b n p e i op D code code1 vs cl W cu fs t s) (f : fBk s s') : PE b n p e i op D code code1 vs cl W cu fs t s' := by
  obtain ⟨h1, hc', hr, hw, hW, hV, k1, k2, k3, k4, k5, k6, k7⟩ := h
  exact ⟨h1.kR (fun q z => f.1 q (by omega)) (f.2.1 7 (fun z => z)) (f.2.2.1 2 (by omega)) (f.2.2.2 0 (fun z => z)), hc', hr.keep (f.1 12 (by omega)) (f.1 28 (by omega)) (fun q _ => f.2.2.1 q (by omega)), hw, hW.keep (f.1 44 (by omega)) (fun q _ => f.2.2.1 q (by omega)) (f.2.2.2 42 (fun z => z)), hV.keep rfl rfl (f.1 22 (by omega)) (f.2.2.2 21 (fun z => z)), k1, k2.keep (f.1 29 (by omega)) (fun q _ => f.2.2.1 q (by omega)) (f.2.2.2 33 (fun z => z)), k3, k4, k5, k6, k7⟩
/-- nothing waits -/
theorem PE.w0 (h : PE b n p e i op D code code1 vs cl W cu fs t s) : PE b n p e i op D code code1 vs cl [] cu fs t (mI s 44 0) ∧ FR p e t t s (mI s 44 0) := h.wt (W' := []) ⟨rfl, Nat.zero_le _, fun i hi => absurd hi (Nat.not_lt_zero _)⟩ ⟨fun q r => if_neg r, fun _ _ => rfl, fun _ _ => rfl, fun _ _ => rfl⟩
/-- other bounds -/
theorem PE.fsx {j q : Nat} (h : PE b n p e i op D code code1 vs cl W cu fs t s) (hj : fs.2.1 ≤ j ∧ j ≤ code.length) (hq : q ≤ vs.length) : PE b n p e i op D code code1 vs cl W cu (fs.1, j, q) t s := by
  obtain ⟨h1, hc', hr, hw, hW, hV, k1, k2, k3, ⟨y1, y2, y3, y4, y5, y6⟩, k5, k6, k7⟩ := h
  refine ⟨h1, hc', hr, hw, hW, hV, k1, k2, k3, ⟨y1, y2, y3, hj.2, fun c hc => y5 c ?_, hq⟩, k5, k6, k7⟩
  have hc : c ∈ code.drop j := hc
  rw [show j = fs.2.1 + (j - fs.2.1) by omega, ← List.drop_drop] at hc
  exact List.mem_of_mem_drop hc
theorem PE.pa (h : PE b n p e i op D code code1 vs cl W cu fs t s) : fs.2.2 ≤ vs.length := h.2.2.2.2.2.2.2.2.2.1.2.2.2.2.2
theorem PE.nj (h : PE b n p e i op D code code1 vs cl W cu fs t s) : fs.2.1 ≤ code.length ∧ ∀ c ∈ code.drop fs.2.1, noJ c := ⟨h.2.2.2.2.2.2.2.2.2.1.2.2.2.1, h.2.2.2.2.2.2.2.2.2.1.2.2.2.2.1⟩
theorem PE.ly (h : PE b n p e i op D code code1 vs cl W cu fs t s) : lyo code = some cu := h.2.2.2.2.2.2.2.2.2.1.2.1
/-- a whole E on both sides -/
theorem p_exp (hN : 170000 ≤ N) (hX : oX N X) (hY : oY X) (h : PE b n p e i op D code code vs cl W cu fs t s) (hwn : rWn s) (hD : 1 ≤ D) : (∃ t' s' i' seg vs' cl', cf_S0 N X 150 186 [.int (Int32.ofNat 0)] t = some (t', .inl none) ∧ mf_285 N (Int32.ofNat 0) s = some (s', none) ∧ i < i' ∧ vs.length ≤ vs'.length ∧ PE b n p e i' op D (code ++ seg) (code ++ seg) vs' cl' [] (0 :: cu) fs t' s' ∧ FR p e t t' s s') ∨ (∃ t' s', cf_S0 N X 150 186 [.int (Int32.ofNat 0)] t = some (t', .inr ()) ∧ mf_285 N (Int32.ofNat 0) s = some (s', none) ∧ pF t' s' ∧ FX p e t t' s s') := by
  obtain ⟨h0, f0⟩ := h.w0
  have hM : mf_285 N (Int32.ofNat 0) s = LL N N (Int32.ofNat 0) (Int32.ofNat 0) (mI s 44 0) := rfl
  have hop := h.1.2.2.2.1
  obtain ⟨hi, e5, e6, e7, hkk, ho, he, hlt, hll⟩ := h.1.now
  rcases p_SX hN hX hY 150 0 i op D code vs cl [] cu (fs.1, fs.2.1, vs.length) (Int32.ofNat 0) t (mI s 44 0) (by decide) (h0.fsx ⟨Nat.le_refl _, h.nj.1⟩ (Nat.le_refl _)) (hwn.kp f0.2) (Or.inl rfl) (Nat.zero_le _) (Or.inl rfl) (by omega) hD with ⟨t', s1, k, i', seg, code1, vs', cl', Z, ah, x1, x2, x3, x4, x5, x6, x7, x8, x9, x10⟩ | ⟨t', s1, k, x1, x2, x3, x4, x5⟩
  · obtain ⟨s5, d1, d2, d3⟩ := PE.flu (N := N) (al := Int32.ofNat 0) hN x5 x6 x7 (fun z hh => ⟨(x8 z hh).1, (x8 z hh).2.2⟩) x9 (Or.inl rfl) (Or.inl rfl)
    obtain ⟨hi', -⟩ := x5.1.now
    have hpa : vs.length ≤ vs'.length := d2.pa
    refine Or.inl ⟨t', s5, i', seg, vs', cl', x1, ?_, x2, hpa, d2.fsx (fs := (fs.1, fs.2.1, vs.length)) ⟨Nat.le_refl _, d2.nj.1⟩ (Nat.le_trans h.pa hpa), f0.tr (x10.tr d3)⟩
    have e1 : LL N N (Int32.ofNat 0) (Int32.ofNat 0) (mI s 44 0) = LL N ((N - k - 1) + 1 + k) (Int32.ofNat 0) (Int32.ofNat 0) (mI s 44 0) := by
      rw [show (N - k - 1) + 1 + k = N by omega]
    rw [hM, e1, x4, d1]
    exact L215_0 d2.2.2.2.2.1
  · refine Or.inr ⟨t', s1, x1, ?_, x4, f0.pre x5⟩
    have e1 : LL N N (Int32.ofNat 0) (Int32.ofNat 0) (mI s 44 0) = LL N ((N - k) + k) (Int32.ofNat 0) (Int32.ofNat 0) (mI s 44 0) := by
      rw [show (N - k) + k = N by omega]
    rw [hM, e1]
    exact x3 _
/-- a call that stands alone -/
theorem RS.alone {R : kO} (hN : 170000 ≤ N) (hi : i < (TL b n).length) (hl : (TL b n).length ≤ 1601) (f0 : FR p e t t s (mI s 44 0)) (h : RS N b n p e i op D code [] cu fs (Int32.ofNat 1) t (mI s 44 0) R) : (∃ t' s' i' seg vs' cl', R = some (t', .inl none) ∧ mf_285 N (Int32.ofNat 1) s = some (s', none) ∧ i < i' ∧ PE b n p e i' op D (code ++ seg) (code ++ seg) vs' cl' [] (0 :: cu) fs t' s' ∧ FR p e t t' s s') ∨ (∃ t' s', R = some (t', .inr ()) ∧ mf_285 N (Int32.ofNat 1) s = some (s', none) ∧ pF t' s' ∧ FX p e t t' s s') := by
  have hM : mf_285 N (Int32.ofNat 1) s = LL N N (Int32.ofNat 1) (Int32.ofNat 0) (mI s 44 0) := rfl
  rcases h with ⟨t', s1, k, i', seg, vs', cl', x1, x2, x3, x4, x5, x6⟩ | ⟨t', s1, k, x1, x2, x3, x4, x5⟩
  · obtain ⟨hi', -⟩ := x5.1.now
    refine Or.inl ⟨t', s1, i', seg, vs', cl', x1, ?_, x2, x5, f0.tr x6⟩
    have e1 : LL N N (Int32.ofNat 1) (Int32.ofNat 0) (mI s 44 0) = LL N ((N - k - 1) + 1 + k) (Int32.ofNat 1) (Int32.ofNat 0) (mI s 44 0) := by
      rw [show (N - k - 1) + 1 + k = N by omega]
    rw [hM, e1, x4]
    exact LL_2 x5.1.2.2.2.2.2.2.2.2.2 (by decide) x5.2.2.2.2.1.1
  · refine Or.inr ⟨t', s1, x1, ?_, x4, f0.pre x5⟩
    have e1 : LL N N (Int32.ofNat 1) (Int32.ofNat 0) (mI s 44 0) = LL N ((N - k) + k) (Int32.ofNat 1) (Int32.ofNat 0) (mI s 44 0) := by
      rw [show (N - k) + k = N by omega]
    rw [hM, e1]
    exact x3 _
theorem TW_f {f x : Nat} (h9 : s.1 9 = Int32.ofNat x) (hx : 1 ≤ x ∧ x ≤ 6) : TW N (f + 1) s = some (s, none) := by
  show mf_63_5 N (mf_63_L1 N f) s = _
  unfold mf_63_5 mf_63_68
  simp (disch := omega) only [ev_S, ev_P, ↓reduceIte, Nat.reduceEqDiff, Nat.reduceLeDiff, Nat.reduceAdd, Nat.reduceMul, Nat.reduceSub, reduceCtorEq, l32_0, l32_1, l32_2, l32_3, l32_4, l32_5, l32_6, l32_7, l32_8, l32_9, l32_10, l32_11, l32_12, l32_13, l32_14, l32_15, l32_16, l32_17, l32_18, l32_19, l32_20, l32_21, l32_22, l32_23, l32_24, l32_25, l32_26, l32_27, l32_28, l32_29, l32_33, l32_40, l32_41, l32_44, l32_45, l32_59, l32_61, l32_91, l32_93, l32_123, l32_125, h9]
theorem TW_F {f : Nat} (h : pF t s) : TW N (f + 1) s = some (s, none) := by
  obtain ⟨x, y, v1, v2, v3, v4, v5, v6, v7⟩ := h
  exact TW_f v6 ⟨v1, v2⟩
/-- a round that is a statement's, or a bracket's -/
theorem TW_s {f B : Nat} (h : pR b n i op t s) (h37 : s.1 37 = Int32.ofNat (B + 1)) (hB : B ≤ 11) : ∃ hi : i < (TL b n).length, (¬ (TL b n)[i].1 = 125 → TW N (f + 1) s = mo_bv (mf_279 N s) (fun s1 => TW N f s1)) ∧ ((TL b n)[i].1 = 125 → TW N (f + 1) s = mo_bv (mf_278 N s) (fun s1 => TW N f s1)) := by
  obtain ⟨hi, e5, e6, e7, hkk, ho, he, hlt, hll⟩ := h.now
  have h9 : s.1 9 = Int32.ofNat 0 := h.2.2.2.2.2.2.2.2.2
  have g1 := r_isSign (N := N) (c := 125) hkk (by decide) (by decide)
  refine ⟨hi, fun z => ?_, fun z => ?_⟩
  · rw [if_neg z] at g1
    show mf_63_5 N (mf_63_L1 N f) s = _
    unfold mf_63_5 mf_63_12 mf_63_26 mf_63_45 mf_63_51 mf_63_61
    simp (disch := omega) only [ev_S, ev_P, ↓reduceIte, Nat.reduceEqDiff, Nat.reduceLeDiff, Nat.reduceAdd, Nat.reduceMul, Nat.reduceSub, reduceCtorEq, l32_0, l32_1, l32_2, l32_3, l32_4, l32_5, l32_6, l32_7, l32_8, l32_9, l32_10, l32_11, l32_12, l32_13, l32_14, l32_15, l32_16, l32_17, l32_18, l32_19, l32_20, l32_21, l32_22, l32_23, l32_24, l32_25, l32_26, l32_27, l32_28, l32_29, l32_33, l32_40, l32_41, l32_44, l32_45, l32_59, l32_61, l32_91, l32_93, l32_123, l32_125, h9, h37, g1]
    rfl
  · rw [if_pos z] at g1
    show mf_63_5 N (mf_63_L1 N f) s = _
    unfold mf_63_5 mf_63_12 mf_63_26 mf_63_45 mf_63_51 mf_63_54
    simp (disch := omega) only [ev_S, ev_P, ↓reduceIte, Nat.reduceEqDiff, Nat.reduceLeDiff, Nat.reduceAdd, Nat.reduceMul, Nat.reduceSub, reduceCtorEq, l32_0, l32_1, l32_2, l32_3, l32_4, l32_5, l32_6, l32_7, l32_8, l32_9, l32_10, l32_11, l32_12, l32_13, l32_14, l32_15, l32_16, l32_17, l32_18, l32_19, l32_20, l32_21, l32_22, l32_23, l32_24, l32_25, l32_26, l32_27, l32_28, l32_29, l32_33, l32_40, l32_41, l32_44, l32_45, l32_59, l32_61, l32_91, l32_93, l32_123, l32_125, h9, h37, g1]
    rfl
/-- a block is put up, and all else stands -/
theorem rB.push {x1 x2 x3 : Int32} (h : rB s Bs) (hb : Bs.length < 10) : ∃ s', mf_276_6 N x1 x2 x3 s = some (s', none) ∧ fBk s s' ∧ rB s' (Bs ++ [(x1, x2, x3)]) := by
  obtain ⟨h1, h2, h3⟩ := h
  obtain ⟨s', a1, a2, a3, a4, a5, a6, a7⟩ := r_push (N := N) (x1 := x1) (x2 := x2) (x3 := x3) h1 (by omega)
  refine ⟨s', a1, a2, by rw [List.length_append]; exact a3, by rw [List.length_append, List.length_singleton]; omega, fun k hk => ?_⟩
  rw [List.length_append, List.length_singleton] at hk
  by_cases z : k < Bs.length
  · rw [List.getElem_append_left z, a4 34 (by omega) k (by omega), a4 35 (by omega) k (by omega), a4 36 (by omega) k (by omega)]
    exact h3 k z
  · have z : k = Bs.length := by omega
    subst z
    rw [List.getElem_append_right (Nat.le_refl _)]
    simp only [Nat.sub_self, List.getElem_cons_zero]
    exact ⟨a5, a6, a7⟩
end STM
end
