/-! ===== PURE: run (80): one act, one order ===== -/
theorem l32_1000000 : (1000000 : Int32) = Int32.ofNat 1000000 := rfl
section FET
variable {N : Nat} {X : Nat → Option zz_C} {t t' t1 t2 : cS} {s s1 s2 : mS} {code : List Ins} {Fs : List Fn} {p h m pc i fu st F : Nat} {a g q x2 : Int32}
theorem flat_getd {α : Type} {f : Nat → List α} {n m : Nat} {a : α} {l1 l : List α} (hm : m < n) (hf : f m = l1 ++ a :: l) : ∃ h : ((List.range m).flatMap f).length + l1.length < ((List.range n).flatMap f).length, ((List.range n).flatMap f)[((List.range m).flatMap f).length + l1.length] = a := by
  obtain ⟨d, rfl⟩ : ∃ d, n = m + (1 + d) := ⟨n - m - 1, by omega⟩
  have e2 : ((List.range 1).map (m + ·)).flatMap f = f m := by
    show (f (m + 0) ++ []) = f m
    rw [List.append_nil]
    rfl
  have e3 : ∃ r, (List.range (m + (1 + d))).flatMap f = ((List.range m).flatMap f ++ l1) ++ a :: r := by
    rw [List.range_add, List.flatMap_append, List.range_add, List.map_append, List.flatMap_append, e2, hf]
    refine ⟨l ++ (List.map (m + ·) (List.map (1 + ·) (List.range d))).flatMap f, ?_⟩
    simp only [List.append_assoc, List.cons_append]
  obtain ⟨r, hr⟩ := e3
  refine ⟨by rw [hr, List.length_append, List.length_cons, List.length_append]; omega, ?_⟩
  simp only [hr]
  rw [List.getElem_append_right (by rw [List.length_append]; omega)]
  simp only [List.length_append, Nat.sub_self, List.getElem_cons_zero]
theorem CA_at {a : C3} {l1 l : List C3} (hm : m < code.length) (h1 : cI code (posC code m) (inA code m) = l1 ++ a :: l) : ∃ h : posC code m + l1.length < (CA code).length, (CA code)[posC code m + l1.length] = a := by
  have e0 : posC code m = ((List.range m).flatMap fun k => cI code (posC code k) (code.getD k dI)).length := by
    rw [CA_pre, rng_take (Nat.le_of_lt hm)]
    rfl
  obtain ⟨g1, g2⟩ := flat_getd (f := fun k => cI code (posC code k) (code.getD k dI)) hm h1
  simp only [← e0] at g1 g2
  exact ⟨g1, g2⟩
theorem RA_at {e : Nat} {a : R5} {l1 l : List R5} (hm : m < code.length) (h1 : rI e code (inA code m) = l1 ++ a :: l) : ∃ h : posR code m + l1.length < (RA e code).length, (RA e code)[posR code m + l1.length] = a := by
  have e0 : posR code m = ((List.range m).flatMap fun k => rI e code (code.getD k dI)).length := by
    rw [RA_pre, rng_take (Nat.le_of_lt hm)]
    rfl
  obtain ⟨g1, g2⟩ := flat_getd (f := fun k => rI e code (code.getD k dI)) hm h1
  simp only [← e0] at g1 g2
  exact ⟨g1, g2⟩
/-- the class's act -/
theorem c_fet (hE : cEv t p code Fs) (hx : cx code < 6500) (hg : kI t 49 18 = Int32.ofNat 1) (hi : i < 1000000) (hn : kI t 49 17 = Int32.ofNat pc) (hp : pc < (CA code).length) (ha : (CA code)[pc] = (a, g, q)) : cf_141_L4 N X (F + 1) 0 (Int32.ofNat i) t = if a < Int32.ofNat 19 then cf_141_120 N X (cf_141_L4 N X F) (Int32.ofNat i) a g q (jI t 49 17 (Int32.ofNat (pc + 1))) else cf_141_108 N X (cf_141_L4 N X F) (Int32.ofNat i) a g q (jI t 49 17 (Int32.ofNat (pc + 1))) := by
  obtain ⟨h1, h2, ⟨g1, g2, g3, g4, g5, g6, g7⟩, -⟩ := hE
  have hl := CA_len (code := code)
  obtain ⟨d1, d2, d3⟩ := g2 pc hp
  rw [ha] at d1 d2 d3
  have d1 : (kA t (p + 1)).2 pc = a := d1
  have d2 : (kA t (p + 2)).2 pc = g := d2
  have d3 : (kA t (p + 3)).2 pc = q := d3
  have hp2 : (p = 12 ∨ p = 21) = True := eq_true h2
  have l1 : pc < (kA t (p + 1)).1 := by omega
  have l2 : pc < (kA t (p + 2)).1 := by omega
  have l3 : pc < (kA t (p + 3)).1 := by omega
  have b1 : (kA t (p + 1)).1 < 13000 := g7
  have b2 : (kA t (p + 2)).1 < 13000 := by omega
  have b3 : (kA t (p + 3)).1 < 13000 := by omega
  have n1 : ¬ (CA code).length ≤ pc := by omega
  have n2 : (CA code).length < 13000 := by omega
  clear g2 ha hl
  generalize (CA code).length = L at *
  have e1 : cf_211 N X p (Int32.ofNat pc) t = some (t, .inl (some (.int a))) := by
    unfold cf_211 cf_211_0 cf_211_4 cf_211_12 cf_211_23
    simp (disch := omega) only [ev_S, ev_C, ↓reduceIte, Nat.reduceEqDiff, Nat.reduceLeDiff, Nat.reduceAdd, Nat.reduceMul, Nat.reduceSub, reduceCtorEq, l32_0, l32_1, l32_2, l32_3, l32_4, l32_5, l32_6, l32_7, l32_8, l32_9, l32_10, l32_11, l32_12, l32_13, l32_14, l32_15, l32_16, l32_17, l32_18, l32_19, l32_20, l32_21, l32_22, l32_23, l32_24, l32_25, l32_26, l32_27, l32_28, l32_29, l32_33, l32_40, l32_41, l32_44, l32_45, l32_59, l32_61, l32_91, l32_93, l32_123, l32_125, hp2, g1, n1, d1]
  have e2 : cf_212 N X p (Int32.ofNat pc) t = some (t, .inl (some (.int g))) := by
    unfold cf_212 cf_212_0 cf_212_4 cf_212_12 cf_212_22
    simp (disch := omega) only [ev_S, ev_C, ↓reduceIte, Nat.reduceEqDiff, Nat.reduceLeDiff, Nat.reduceAdd, Nat.reduceMul, Nat.reduceSub, reduceCtorEq, l32_0, l32_1, l32_2, l32_3, l32_4, l32_5, l32_6, l32_7, l32_8, l32_9, l32_10, l32_11, l32_12, l32_13, l32_14, l32_15, l32_16, l32_17, l32_18, l32_19, l32_20, l32_21, l32_22, l32_23, l32_24, l32_25, l32_26, l32_27, l32_28, l32_29, l32_33, l32_40, l32_41, l32_44, l32_45, l32_59, l32_61, l32_91, l32_93, l32_123, l32_125, hp2, g1, n1, d2]
  have e3 : cf_213 N X p (Int32.ofNat pc) t = some (t, .inl (some (.int q))) := by
    unfold cf_213 cf_213_0 cf_213_4 cf_213_12 cf_213_22
    simp (disch := omega) only [ev_S, ev_C, ↓reduceIte, Nat.reduceEqDiff, Nat.reduceLeDiff, Nat.reduceAdd, Nat.reduceMul, Nat.reduceSub, reduceCtorEq, l32_0, l32_1, l32_2, l32_3, l32_4, l32_5, l32_6, l32_7, l32_8, l32_9, l32_10, l32_11, l32_12, l32_13, l32_14, l32_15, l32_16, l32_17, l32_18, l32_19, l32_20, l32_21, l32_22, l32_23, l32_24, l32_25, l32_26, l32_27, l32_28, l32_29, l32_33, l32_40, l32_41, l32_44, l32_45, l32_59, l32_61, l32_91, l32_93, l32_123, l32_125, hp2, g1, n1, d3]
  show cf_141_39 N X (cf_141_L4 N X F) (Int32.ofNat i) t = _
  have n3 : ¬ 1000000 ≤ i := by omega
  unfold cf_141_39 cf_141_45 cf_141_52 cf_141_63 cf_141_76 cf_141_89
  simp (disch := omega) only [ev_S, ev_C, ↓reduceIte, Nat.reduceEqDiff, Nat.reduceLeDiff, Nat.reduceAdd, Nat.reduceMul, Nat.reduceSub, reduceCtorEq, l32_0, l32_1, l32_2, l32_3, l32_4, l32_5, l32_6, l32_7, l32_8, l32_9, l32_10, l32_11, l32_12, l32_13, l32_14, l32_15, l32_16, l32_17, l32_18, l32_19, l32_20, l32_21, l32_22, l32_23, l32_24, l32_25, l32_26, l32_27, l32_28, l32_29, l32_33, l32_40, l32_41, l32_44, l32_45, l32_59, l32_61, l32_91, l32_93, l32_123, l32_125, hg, n3, h1, hp2, hn, e1, e2, e3, l32_1000000]
theorem c_rdM (ha : a < Int32.ofNat 19) (ha2 : a < Int32.ofNat 13) (hr : cf_142 N X a g q t1 = some (t2, .inl none)) : (if a < Int32.ofNat 19 then cf_141_120 N X (cf_141_L4 N X F) (Int32.ofNat i) a g q t1 else cf_141_108 N X (cf_141_L4 N X F) (Int32.ofNat i) a g q t1) = cf_141_L4 N X F 0 (Int32.ofNat (i + 1)) t2 := by
  have ha2 : (a < Int32.ofNat 13) = True := eq_true ha2
  rw [if_pos ha]
  unfold cf_141_120 cf_141_147 cf_141_157
  simp (disch := omega) only [ev_S, ev_C, ↓reduceIte, Nat.reduceEqDiff, Nat.reduceLeDiff, Nat.reduceAdd, Nat.reduceMul, Nat.reduceSub, reduceCtorEq, l32_0, l32_1, l32_2, l32_3, l32_4, l32_5, l32_6, l32_7, l32_8, l32_9, l32_10, l32_11, l32_12, l32_13, l32_14, l32_15, l32_16, l32_17, l32_18, l32_19, l32_20, l32_21, l32_22, l32_23, l32_24, l32_25, l32_26, l32_27, l32_28, l32_29, l32_33, l32_40, l32_41, l32_44, l32_45, l32_59, l32_61, l32_91, l32_93, l32_123, l32_125, ha2, hr]
theorem c_rdW (ha : a < Int32.ofNat 19) (ha2 : ¬ a < Int32.ofNat 13) (ha3 : ¬ Int32.ofNat 26 ≤ a) (hr : cf_143 N X a g q t1 = some (t2, .inl none)) : (if a < Int32.ofNat 19 then cf_141_120 N X (cf_141_L4 N X F) (Int32.ofNat i) a g q t1 else cf_141_108 N X (cf_141_L4 N X F) (Int32.ofNat i) a g q t1) = cf_141_L4 N X F 0 (Int32.ofNat (i + 1)) t2 := by
  have ha2 : (a < Int32.ofNat 13) = False := eq_false ha2
  have ha3 : (Int32.ofNat 26 ≤ a) = False := eq_false ha3
  rw [if_pos ha]
  unfold cf_141_120 cf_141_127 cf_141_134 cf_141_144 cf_141_157
  simp (disch := omega) only [ev_S, ev_C, ↓reduceIte, Nat.reduceEqDiff, Nat.reduceLeDiff, Nat.reduceAdd, Nat.reduceMul, Nat.reduceSub, reduceCtorEq, l32_0, l32_1, l32_2, l32_3, l32_4, l32_5, l32_6, l32_7, l32_8, l32_9, l32_10, l32_11, l32_12, l32_13, l32_14, l32_15, l32_16, l32_17, l32_18, l32_19, l32_20, l32_21, l32_22, l32_23, l32_24, l32_25, l32_26, l32_27, l32_28, l32_29, l32_33, l32_40, l32_41, l32_44, l32_45, l32_59, l32_61, l32_91, l32_93, l32_123, l32_125, ha2, ha3, hr]
/-- a step is done, or there is no fuel -/
theorem c_step (h1 : kI t 48 1 = Int32.ofNat fu) (h2 : kI t 48 2 = Int32.ofNat st) (hf : fu ≤ 20000) (hs : st < fu) : cf_146 N X q t = some (jI t 48 2 (Int32.ofNat (st + 1)), .inl (some (.int (Int32.ofNat 1)))) := by
  unfold cf_146 cf_146_0 cf_146_7 cf_146_20 cf_235 cf_235_0 cf_235_13
  simp (disch := omega) only [ev_S, ev_C, ↓reduceIte, Nat.reduceEqDiff, Nat.reduceLeDiff, Nat.reduceAdd, Nat.reduceMul, Nat.reduceSub, reduceCtorEq, l32_0, l32_1, l32_2, l32_3, l32_4, l32_5, l32_6, l32_7, l32_8, l32_9, l32_10, l32_11, l32_12, l32_13, l32_14, l32_15, l32_16, l32_17, l32_18, l32_19, l32_20, l32_21, l32_22, l32_23, l32_24, l32_25, l32_26, l32_27, l32_28, l32_29, l32_33, l32_40, l32_41, l32_44, l32_45, l32_59, l32_61, l32_91, l32_93, l32_123, l32_125, h1, h2, hs]
theorem c_rdSW (ha : ¬ a < Int32.ofNat 19) (ha2 : ¬ a < Int32.ofNat 13) (ha3 : ¬ Int32.ofNat 26 ≤ a) (hst : cf_146 N X q t1 = some (t', .inl (some (.int (Int32.ofNat 1))))) (hr : cf_143 N X a g q t' = some (t2, .inl none)) : (if a < Int32.ofNat 19 then cf_141_120 N X (cf_141_L4 N X F) (Int32.ofNat i) a g q t1 else cf_141_108 N X (cf_141_L4 N X F) (Int32.ofNat i) a g q t1) = cf_141_L4 N X F 0 (Int32.ofNat (i + 1)) t2 := by
  have ha2 : (a < Int32.ofNat 13) = False := eq_false ha2
  have ha3 : (Int32.ofNat 26 ≤ a) = False := eq_false ha3
  rw [if_neg ha]
  unfold cf_141_108 cf_141_114 cf_141_120 cf_141_127 cf_141_134 cf_141_144 cf_141_157
  simp (disch := omega) only [ev_S, ev_C, ↓reduceIte, Nat.reduceEqDiff, Nat.reduceLeDiff, Nat.reduceAdd, Nat.reduceMul, Nat.reduceSub, reduceCtorEq, l32_0, l32_1, l32_2, l32_3, l32_4, l32_5, l32_6, l32_7, l32_8, l32_9, l32_10, l32_11, l32_12, l32_13, l32_14, l32_15, l32_16, l32_17, l32_18, l32_19, l32_20, l32_21, l32_22, l32_23, l32_24, l32_25, l32_26, l32_27, l32_28, l32_29, l32_33, l32_40, l32_41, l32_44, l32_45, l32_59, l32_61, l32_91, l32_93, l32_123, l32_125, hst, ha2, ha3, hr]
theorem c_rdSM (ha : ¬ a < Int32.ofNat 19) (ha2 : ¬ a < Int32.ofNat 13) (ha3 : Int32.ofNat 26 ≤ a) (hst : cf_146 N X q t1 = some (t', .inl (some (.int (Int32.ofNat 1))))) (hr : cf_142 N X a g q t' = some (t2, .inl none)) : (if a < Int32.ofNat 19 then cf_141_120 N X (cf_141_L4 N X F) (Int32.ofNat i) a g q t1 else cf_141_108 N X (cf_141_L4 N X F) (Int32.ofNat i) a g q t1) = cf_141_L4 N X F 0 (Int32.ofNat (i + 1)) t2 := by
  have ha2 : (a < Int32.ofNat 13) = False := eq_false ha2
  have ha3 : (Int32.ofNat 26 ≤ a) = True := eq_true ha3
  rw [if_neg ha]
  unfold cf_141_108 cf_141_114 cf_141_120 cf_141_127 cf_141_147 cf_141_157
  simp (disch := omega) only [ev_S, ev_C, ↓reduceIte, Nat.reduceEqDiff, Nat.reduceLeDiff, Nat.reduceAdd, Nat.reduceMul, Nat.reduceSub, reduceCtorEq, l32_0, l32_1, l32_2, l32_3, l32_4, l32_5, l32_6, l32_7, l32_8, l32_9, l32_10, l32_11, l32_12, l32_13, l32_14, l32_15, l32_16, l32_17, l32_18, l32_19, l32_20, l32_21, l32_22, l32_23, l32_24, l32_25, l32_26, l32_27, l32_28, l32_29, l32_33, l32_40, l32_41, l32_44, l32_45, l32_59, l32_61, l32_91, l32_93, l32_123, l32_125, hst, ha2, ha3, hr]
/-- the class's trouble, as it is told -/
abbrev tol (t : cS) (k q r : Int32) : cS := jI (jI (jI t 48 6 k) 48 7 q) 48 8 r
/-- it is one that ends the run -/
theorem c_fallE {k : Nat} {r : Int32} (hk : 10 ≤ k ∨ kI t 49 15 = Int32.ofNat 0) (hk2 : k < 100) : cf_156 N X (Int32.ofNat k) q r t = some (jI (tol t (Int32.ofNat k) q r) 49 18 (Int32.ofNat 0), .inl none) := by
  have e : cf_238 N X (Int32.ofNat k) q r t = some (tol t (Int32.ofNat k) q r, .inl none) := rfl
  by_cases c : 10 ≤ k
  · unfold cf_156 cf_156_0 cf_156_10 cf_156_23
    simp (disch := omega) only [ev_S, ev_C, ↓reduceIte, Nat.reduceEqDiff, Nat.reduceLeDiff, Nat.reduceAdd, Nat.reduceMul, Nat.reduceSub, reduceCtorEq, l32_0, l32_1, l32_2, l32_3, l32_4, l32_5, l32_6, l32_7, l32_8, l32_9, l32_10, l32_11, l32_12, l32_13, l32_14, l32_15, l32_16, l32_17, l32_18, l32_19, l32_20, l32_21, l32_22, l32_23, l32_24, l32_25, l32_26, l32_27, l32_28, l32_29, l32_33, l32_40, l32_41, l32_44, l32_45, l32_59, l32_61, l32_91, l32_93, l32_123, l32_125, e, c]
  · have h15 : kI (tol t (Int32.ofNat k) q r) 49 15 = Int32.ofNat 0 := hk.resolve_left c
    unfold cf_156 cf_156_0 cf_156_10 cf_156_16 cf_156_23
    simp (disch := omega) only [ev_S, ev_C, ↓reduceIte, Nat.reduceEqDiff, Nat.reduceLeDiff, Nat.reduceAdd, Nat.reduceMul, Nat.reduceSub, reduceCtorEq, l32_0, l32_1, l32_2, l32_3, l32_4, l32_5, l32_6, l32_7, l32_8, l32_9, l32_10, l32_11, l32_12, l32_13, l32_14, l32_15, l32_16, l32_17, l32_18, l32_19, l32_20, l32_21, l32_22, l32_23, l32_24, l32_25, l32_26, l32_27, l32_28, l32_29, l32_33, l32_40, l32_41, l32_44, l32_45, l32_59, l32_61, l32_91, l32_93, l32_123, l32_125, e, c, h15]
theorem c_rdX (ha : ¬ a < Int32.ofNat 19) (h1 : kI t1 48 1 = Int32.ofNat fu) (h2 : kI t1 48 2 = Int32.ofNat fu) (hf : fu ≤ 20000) : (if a < Int32.ofNat 19 then cf_141_120 N X (cf_141_L4 N X F) (Int32.ofNat i) a g q t1 else cf_141_108 N X (cf_141_L4 N X F) (Int32.ofNat i) a g q t1) = some (jI (tol t1 (Int32.ofNat 10) q (Int32.ofNat 0)) 49 18 (Int32.ofNat 0), .inl none) := by
  have e1 : cf_235 N X t1 = some (t1, .inl (some (.int (Int32.ofNat 0)))) := by
    unfold cf_235 cf_235_0 cf_235_11
    simp (disch := omega) only [ev_S, ev_C, ↓reduceIte, Nat.reduceEqDiff, Nat.reduceLeDiff, Nat.reduceAdd, Nat.reduceMul, Nat.reduceSub, reduceCtorEq, l32_0, l32_1, l32_2, l32_3, l32_4, l32_5, l32_6, l32_7, l32_8, l32_9, l32_10, l32_11, l32_12, l32_13, l32_14, l32_15, l32_16, l32_17, l32_18, l32_19, l32_20, l32_21, l32_22, l32_23, l32_24, l32_25, l32_26, l32_27, l32_28, l32_29, l32_33, l32_40, l32_41, l32_44, l32_45, l32_59, l32_61, l32_91, l32_93, l32_123, l32_125, h1, h2]
  have e2 := c_fallE (N := N) (X := X) (t := t1) (k := 10) (q := q) (r := Int32.ofNat 0) (Or.inl (Nat.le_refl _)) (by omega)
  have e3 : cf_146 N X q t1 = some (jI (tol t1 (Int32.ofNat 10) q (Int32.ofNat 0)) 49 18 (Int32.ofNat 0), .inl (some (.int (Int32.ofNat 0)))) := by
    unfold cf_146 cf_146_0 cf_146_7 cf_146_12 cf_146_20
    simp (disch := omega) only [ev_S, ev_C, ↓reduceIte, Nat.reduceEqDiff, Nat.reduceLeDiff, Nat.reduceAdd, Nat.reduceMul, Nat.reduceSub, reduceCtorEq, l32_0, l32_1, l32_2, l32_3, l32_4, l32_5, l32_6, l32_7, l32_8, l32_9, l32_10, l32_11, l32_12, l32_13, l32_14, l32_15, l32_16, l32_17, l32_18, l32_19, l32_20, l32_21, l32_22, l32_23, l32_24, l32_25, l32_26, l32_27, l32_28, l32_29, l32_33, l32_40, l32_41, l32_44, l32_45, l32_59, l32_61, l32_91, l32_93, l32_123, l32_125, e1, e2]
  have e4 : kI (jI (tol t1 (Int32.ofNat 10) q (Int32.ofNat 0)) 49 18 (Int32.ofNat 0)) 49 18 = Int32.ofNat 0 := rfl
  rw [if_neg ha]
  unfold cf_141_108 cf_141_114 cf_141_117 cf_141_163 cf_141_181
  simp (disch := omega) only [ev_S, ev_C, ↓reduceIte, Nat.reduceEqDiff, Nat.reduceLeDiff, Nat.reduceAdd, Nat.reduceMul, Nat.reduceSub, reduceCtorEq, l32_0, l32_1, l32_2, l32_3, l32_4, l32_5, l32_6, l32_7, l32_8, l32_9, l32_10, l32_11, l32_12, l32_13, l32_14, l32_15, l32_16, l32_17, l32_18, l32_19, l32_20, l32_21, l32_22, l32_23, l32_24, l32_25, l32_26, l32_27, l32_28, l32_29, l32_33, l32_40, l32_41, l32_44, l32_45, l32_59, l32_61, l32_91, l32_93, l32_123, l32_125, e3, e4]
/-- the class has ended -/
theorem c_off (hg : kI t 49 18 = Int32.ofNat 0) (hi : i ≤ 1000000) : cf_141_L4 N X (F + 1) 0 (Int32.ofNat i) t = some (t, .inl none) := by
  show cf_141_39 N X (cf_141_L4 N X F) (Int32.ofNat i) t = _
  by_cases c : 1000000 ≤ i
  · unfold cf_141_39 cf_141_163 cf_141_181
    simp (disch := omega) only [ev_S, ev_C, ↓reduceIte, Nat.reduceEqDiff, Nat.reduceLeDiff, Nat.reduceAdd, Nat.reduceMul, Nat.reduceSub, reduceCtorEq, l32_0, l32_1, l32_2, l32_3, l32_4, l32_5, l32_6, l32_7, l32_8, l32_9, l32_10, l32_11, l32_12, l32_13, l32_14, l32_15, l32_16, l32_17, l32_18, l32_19, l32_20, l32_21, l32_22, l32_23, l32_24, l32_25, l32_26, l32_27, l32_28, l32_29, l32_33, l32_40, l32_41, l32_44, l32_45, l32_59, l32_61, l32_91, l32_93, l32_123, l32_125, hg, c, l32_1000000]
  · unfold cf_141_39 cf_141_45 cf_141_163 cf_141_181
    simp (disch := omega) only [ev_S, ev_C, ↓reduceIte, Nat.reduceEqDiff, Nat.reduceLeDiff, Nat.reduceAdd, Nat.reduceMul, Nat.reduceSub, reduceCtorEq, l32_0, l32_1, l32_2, l32_3, l32_4, l32_5, l32_6, l32_7, l32_8, l32_9, l32_10, l32_11, l32_12, l32_13, l32_14, l32_15, l32_16, l32_17, l32_18, l32_19, l32_20, l32_21, l32_22, l32_23, l32_24, l32_25, l32_26, l32_27, l32_28, l32_29, l32_33, l32_40, l32_41, l32_44, l32_45, l32_59, l32_61, l32_91, l32_93, l32_123, l32_125, hg, c, l32_1000000]
end FET
