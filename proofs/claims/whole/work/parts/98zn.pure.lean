/-! ===== PURE: run (117): a call ends (the class) ===== -/
section LEA
variable {N : Nat} {X : Nat → Option zz_C} {t0 t t1 t2 : cS} {u w p fu m m' d d' n k b j D : Nat} {code : List Ins} {Fs : List Fn} {T : Ty} {out : List Int32} {G F : List Fm} {sh S0 : Nat → Option Nod} {vs : List (Option Nod)} {I J : List It} {q z z' : Int32} {x : Nod} {R : List (Nat × Nat × Nat)}
theorem jI_self {a b : Nat} (h : kI t a b = z) : jI t a b z = t := by
  unfold jI
  refine Prod.ext ?_ rfl
  funext k f
  show (if k = a ∧ f = b then z else kI t k f) = kI t k f
  split
  · rename_i e
    rw [e.1, e.2, h]
  · rfl
theorem jI_jI {a b : Nat} : jI (jI t a b z) a b z' = jI t a b z' := by
  refine Prod.ext ?_ rfl
  funext k f
  show (if k = a ∧ f = b then z' else if k = a ∧ f = b then z else kI t k f) = (if k = a ∧ f = b then z' else kI t k f)
  split
  · rfl
  · rfl
theorem tIt_d : ∀ {I : List It}, ∀ y ∈ tIt b d I, y.2.2 = d
  | [], y, hy => by cases hy
  | a :: I, y, hy => by
    by_cases c : a.1 = 3
    · have e : tIt b d (a :: I) = (a.2.2, (cIt I).length + b, d) :: tIt b d I := if_pos c
      rw [e] at hy
      rcases List.mem_cons.mp hy with q | q
      · rw [q]
      · exact tIt_d y q
    · have e : tIt b d (a :: I) = tIt b d I := if_neg c
      rw [e] at hy
      exact tIt_d y hy
theorem tStk_d : ∀ {F : List Fm}, ∀ y ∈ tStk F, y.2.2 ≤ F.length
  | [], y, hy => by cases hy
  | a :: F, y, hy => by
    have hy : y ∈ tIt (a.2.2.1.length + (cStk F).length) (F.length + 1) a.2.2.2 ++ tStk F := hy
    rcases List.mem_append.mp hy with q | q
    · rw [tIt_d y q]
      exact Nat.le_refl _
    · exact Nat.le_succ_of_le (tStk_d y q)
/-- the tries of the call go -/
theorem c_unt {v : Int64} (hD : D ≤ 10) (hR : ∀ a ∈ R, a.2.2 < D) : ∀ {A : List (Nat × Nat × Nat)} {t : cS}, stk (tryP code) (fun i => ((kA t 55).2 i, (kA t 56).2 i, (kA t 57).2 i)) (A ++ R) → (A ++ R).length ≤ (kA t 55).1 → (kA t 55).1 ≤ 1000 → kI t 49 15 = Int32.ofNat (A ++ R).length → kI t 49 11 = Int32.ofNat D → (∀ a ∈ A, a.2.2 = D) → ∀ Q, A.length < Q → cf_158_L7 N X Q 0 v t = cf_158_43 N X v (jI t 49 15 (Int32.ofNat R.length))
  | [], t, hs, hl, hk, h15, h11, hA, Q, hQ => by
    obtain ⟨Q', rfl⟩ : ∃ Q', Q = Q' + 1 := ⟨Q - 1, by have : 0 < Q := hQ; omega⟩
    have h15 : kI t 49 15 = Int32.ofNat R.length := h15
    rw [jI_self h15]
    show cf_158_5 N X (cf_158_L7 N X Q') v t = _
    cases R with
    | nil =>
      have h15 : kI t 49 15 = Int32.ofNat 0 := h15
      unfold cf_158_5
      simp (disch := omega) only [ev_S, ev_C, ↓reduceIte, Nat.reduceEqDiff, Nat.reduceLeDiff, Nat.reduceAdd, Nat.reduceMul, Nat.reduceSub, reduceCtorEq, l32_0, l32_1, l32_2, l32_3, l32_4, l32_5, l32_6, l32_7, l32_8, l32_9, l32_10, l32_11, l32_12, l32_13, l32_14, l32_15, l32_16, l32_17, l32_18, l32_19, l32_20, l32_21, l32_22, l32_23, l32_24, l32_25, l32_26, l32_27, l32_28, l32_29, l32_33, l32_40, l32_41, l32_44, l32_45, l32_59, l32_61, l32_91, l32_93, l32_123, l32_125, h15]
    | cons r R =>
      have h15 : kI t 49 15 = Int32.ofNat (R.length + 1) := h15
      have hl : R.length + 1 ≤ (kA t 55).1 := hl
      have h1 : (kA t 55).2 R.length = Int32.ofNat r.2.2 := hs.1.1
      have h2 := hR r List.mem_cons_self
      have sb : Int32.ofNat (R.length + 1) - Int32.ofNat 1 = Int32.ofNat R.length := by rw [← Int32.ofNat_sub _ _ (by omega)]; rfl
      clear hs hR hA
      generalize R.length = nr at *
      generalize r.2.2 = rd at *
      generalize hke : (kA t 55).1 = ke at *
      have n0 : ¬ nr + 1 ≤ 0 := by omega
      unfold cf_158_5 cf_158_12
      simp (disch := omega) only [ev_S, ev_C, ↓reduceIte, Nat.reduceEqDiff, Nat.reduceLeDiff, Nat.reduceAdd, Nat.reduceMul, Nat.reduceSub, reduceCtorEq, l32_0, l32_1, l32_2, l32_3, l32_4, l32_5, l32_6, l32_7, l32_8, l32_9, l32_10, l32_11, l32_12, l32_13, l32_14, l32_15, l32_16, l32_17, l32_18, l32_19, l32_20, l32_21, l32_22, l32_23, l32_24, l32_25, l32_26, l32_27, l32_28, l32_29, l32_33, l32_40, l32_41, l32_44, l32_45, l32_59, l32_61, l32_91, l32_93, l32_123, l32_125, h15, n0, sb, hke, h1, h11, h2]
  | a :: A, t, hs, hl, hk, h15, h11, hA, Q, hQ => by
    obtain ⟨Q', rfl⟩ : ∃ Q', Q = Q' + 1 := ⟨Q - 1, by have : A.length + 1 < Q := hQ; omega⟩
    have h15 : kI t 49 15 = Int32.ofNat ((A ++ R).length + 1) := h15
    have hl : (A ++ R).length + 1 ≤ (kA t 55).1 := hl
    have h1 : (kA t 55).2 (A ++ R).length = Int32.ofNat a.2.2 := hs.1.1
    have h2 := hA a List.mem_cons_self
    rw [h2] at h1
    have ih := c_unt (v := v) hD hR (A := A) (t := jI t 49 15 (Int32.ofNat (A ++ R).length)) hs.2 (Nat.le_trans (Nat.le_succ _) hl) hk rfl h11 (fun y hy => hA y (List.mem_cons_of_mem _ hy)) Q' (by have : A.length + 1 < Q' + 1 := hQ; omega)
    rw [jI_jI] at ih
    rw [← ih]
    show cf_158_5 N X (cf_158_L7 N X Q') v t = _
    clear hs hR hA ih
    generalize (A ++ R).length = nr at *
    generalize hke : (kA t 55).1 = ke at *
    have sb : Int32.ofNat (nr + 1) - Int32.ofNat 1 = Int32.ofNat nr := by rw [← Int32.ofNat_sub _ _ (by omega)]; rfl
    have n0 : ¬ nr + 1 ≤ 0 := by omega
    have n1 : ¬ D < D := by omega
    unfold cf_158_5 cf_158_12 cf_158_30
    simp (disch := omega) only [ev_S, ev_C, ↓reduceIte, Nat.reduceEqDiff, Nat.reduceLeDiff, Nat.reduceAdd, Nat.reduceMul, Nat.reduceSub, reduceCtorEq, l32_0, l32_1, l32_2, l32_3, l32_4, l32_5, l32_6, l32_7, l32_8, l32_9, l32_10, l32_11, l32_12, l32_13, l32_14, l32_15, l32_16, l32_17, l32_18, l32_19, l32_20, l32_21, l32_22, l32_23, l32_24, l32_25, l32_26, l32_27, l32_28, l32_29, l32_33, l32_40, l32_41, l32_44, l32_45, l32_59, l32_61, l32_91, l32_93, l32_123, l32_125, h15, n0, sb, hke, h1, h11, n1]
theorem CX.leave (hN : 2000 ≤ N) (C : CX t0 t p code Fs fu S0 u w ((m, d, vs, (0, [x], j) :: I) :: G) sh T out) (hl : (cStk ((m, d, vs, (0, [x], j) :: I) :: G)).length ≤ 17500) (hG : G.length ≤ 9) : ∃ t4 v, CX t0 t4 p code Fs fu S0 u w G sh T out ∧ cN (cel t4) u v x ∧ kI t4 49 17 = Int32.ofNat (cBk code G) ∧ ∀ t5, cf_165 N X v t4 = some (t5, .inl none) → kI t5 49 11 = Int32.ofNat G.length → cf_158 N X t = some (jI t5 49 18 (if G = [] then Int32.ofNat 0 else Int32.ofNat 1), .inl none) := by
  obtain ⟨t2, v, a1, a2, a3, a4, a5⟩ := C.pop (N := N) (X := X) (m' := m) (d' := d) (o := some x) (by omega) (by show ¬ (0 : Nat) = 3; decide) rfl
  have a2 : cN (cel t) u v x := a2
  have h3 := a3
  obtain ⟨⟨c1, c2, c3, c4, c5, c6⟩, ⟨z1, z2, z3, z4, z5, z6, z7, z8⟩, c7, c8⟩ := a3
  have z7 : kI t2 49 11 = Int32.ofNat (G.length + 1) := z7
  have E1 := c_unt (N := N) (X := X) (v := v) (D := G.length + 1) (R := tStk G) (code := code) (by omega) (fun a ha => Nat.lt_succ_of_le (tStk_d a ha)) (A := tIt (vs.length + (cStk G).length) (G.length + 1) I) (t := t2) z3 z5.1 z5.2.2.2.2 z8 z7 (fun y hy => tIt_d y hy) N (by
    have h1 := z5.1
    have h2 := z5.2.2.2.2
    have h1 : (tIt (vs.length + (cStk G).length) (G.length + 1) I ++ tStk G).length ≤ _ := h1
    rw [List.length_append] at h1
    omega)
  have k53 : (kA t2 53).2 G.length = Int32.ofNat (cStk G).length := z2.1
  have k54 : (kA t2 54).2 G.length = Int32.ofNat (cBk code G) := z2.2.1
  have l53 : (kA t2 53).1 = 10 := z4.1
  have l54 : (kA t2 54).1 = 10 := z4.2.1
  have gg : ∀ (t : cS) (f : Nat) (z : Int32), gf e89 aNo t (jI t 49 f z) := fun t f z => g89 (Or.inr rfl)
  have C4 : CX t0 (jI (jI (jI (jI t2 49 15 (Int32.ofNat (tStk G).length)) 49 11 (Int32.ofNat G.length)) 49 8 (Int32.ofNat (cStk G).length)) 49 17 (Int32.ofNat (cBk code G))) p code Fs fu S0 u w G sh T out := by
    refine h3.cy.tk (T' := T) (l := cIt I ++ vs.reverse) ((((gg _ _ _).tr2 (gg _ _ _)).tr2 (gg _ _ _)).tr2 (gg _ _ _)) c2 c3 c5 ?_ z2.2.2 z3.app ?_ rfl rfl rfl
    · show cIt I ++ (vs.reverse ++ cStk G) = _
      rw [List.append_assoc]
    · show _ ≤ (tIt (vs.length + (cStk G).length) (G.length + 1) I ++ tStk G).length
      rw [List.length_append]
      omega
  refine ⟨_, v, C4, ?_, rfl, fun t5 h5 h11 => ?_⟩
  · rw [← a5] at a2
    exact a2
  · clear C4
    have E0 : cf_158 N X t = cf_158_L7 N X N 0 v t2 := by
      clear E1
      unfold cf_158 cf_158_0 cf_158_4
      simp (disch := omega) only [ev_S, ev_C, ↓reduceIte, Nat.reduceEqDiff, Nat.reduceLeDiff, Nat.reduceAdd, Nat.reduceMul, Nat.reduceSub, reduceCtorEq, l32_0, l32_1, l32_2, l32_3, l32_4, l32_5, l32_6, l32_7, l32_8, l32_9, l32_10, l32_11, l32_12, l32_13, l32_14, l32_15, l32_16, l32_17, l32_18, l32_19, l32_20, l32_21, l32_22, l32_23, l32_24, l32_25, l32_26, l32_27, l32_28, l32_29, l32_33, l32_40, l32_41, l32_44, l32_45, l32_59, l32_61, l32_91, l32_93, l32_123, l32_125, a1]
    rw [E0, E1]
    have h15 : kI (jI t2 49 15 (Int32.ofNat (tStk G).length)) 49 11 = Int32.ofNat (G.length + 1) := z7
    have k53' : (kA (jI t2 49 15 (Int32.ofNat (tStk G).length)) 53).2 G.length = Int32.ofNat (cStk G).length := k53
    have k54' : (kA (jI t2 49 15 (Int32.ofNat (tStk G).length)) 54).2 G.length = Int32.ofNat (cBk code G) := k54
    have l53' : (kA (jI t2 49 15 (Int32.ofNat (tStk G).length)) 53).1 = 10 := l53
    have l54' : (kA (jI t2 49 15 (Int32.ofNat (tStk G).length)) 54).1 = 10 := l54
    clear E0 E1 C h3 z1 z2 z3 z5 z6 z8 c1 c6 c7 c8 a1 a2 a4 a5
    generalize jI t2 49 15 (Int32.ofNat (tStk G).length) = t3 at *
    have sb : Int32.ofNat (G.length + 1) - Int32.ofNat 1 = Int32.ofNat G.length := by rw [← Int32.ofNat_sub _ _ (by omega)]; rfl
    have n0 : ¬ G.length + 1 ≤ 0 := by omega
    have fit0 : zz_fit .boolean (.int (Int32.ofNat 0)) = true := rfl
    have fit1 : zz_fit .boolean (.int (Int32.ofNat 1)) = true := rfl
    by_cases c : G = []
    · rw [if_pos c]
      have hg0 : G.length = 0 := by rw [c]; rfl
      clear c
      generalize G.length = ng at *
      subst hg0
      unfold cf_158_43 cf_158_50 cf_158_86 cf_158_91 cf_158_103 cf_158_104
      simp (disch := omega) only [ev_S, ev_C, ↓reduceIte, Nat.reduceEqDiff, Nat.reduceLeDiff, Nat.reduceAdd, Nat.reduceMul, Nat.reduceSub, reduceCtorEq, l32_0, l32_1, l32_2, l32_3, l32_4, l32_5, l32_6, l32_7, l32_8, l32_9, l32_10, l32_11, l32_12, l32_13, l32_14, l32_15, l32_16, l32_17, l32_18, l32_19, l32_20, l32_21, l32_22, l32_23, l32_24, l32_25, l32_26, l32_27, l32_28, l32_29, l32_33, l32_40, l32_41, l32_44, l32_45, l32_59, l32_61, l32_91, l32_93, l32_123, l32_125, h15, n0, sb, k53', k54', l53', l54', h5, h11, fit0]
    · rw [if_neg c]
      have hg0 : ¬ G.length ≤ 0 := by
        intro q
        exact c (List.length_eq_zero_iff.mp (Nat.le_zero.mp q))
      clear c
      generalize G.length = ng at *
      unfold cf_158_43 cf_158_50 cf_158_86 cf_158_91 cf_158_99 cf_158_104
      simp (disch := omega) only [ev_S, ev_C, ↓reduceIte, Nat.reduceEqDiff, Nat.reduceLeDiff, Nat.reduceAdd, Nat.reduceMul, Nat.reduceSub, reduceCtorEq, l32_0, l32_1, l32_2, l32_3, l32_4, l32_5, l32_6, l32_7, l32_8, l32_9, l32_10, l32_11, l32_12, l32_13, l32_14, l32_15, l32_16, l32_17, l32_18, l32_19, l32_20, l32_21, l32_22, l32_23, l32_24, l32_25, l32_26, l32_27, l32_28, l32_29, l32_33, l32_40, l32_41, l32_44, l32_45, l32_59, l32_61, l32_91, l32_93, l32_123, l32_125, h15, n0, sb, k53', k54', l53', l54', h5, h11, hg0, fit1]
end LEA
