/-! ===== PURE: run (132): what each gives, the class ===== -/
/-- what an each over y gives that got xs -/
def ansE (y : Nod) (xs : List Nod) : Ans := if kn y = 3 then ansM 3 xs else if xs = [] then ansM (kn y) [] else ansL xs
section EAC
variable {N : Nat} {X : Nat → Option zz_C} {t t' : cS} {u : Nat} {x y : Nod} {xs : List Nod}
theorem c_eachB (hN : 170000 ≤ N) (H : cG t t' u u 0 xs) (hw : ∀ x ∈ xs, wfN x) (hd : ∀ x ∈ xs, x.1 ≤ 4) (hl : xs.length ≤ 3000) (hu : u ≤ 162000) (h0 : ¬ kn y = 0) : (kn y = 3 → ∃ t'' v, cf_126 N X (Int32.ofNat 3) (Int32.ofNat 0) t' = some (t'', .inl (some (.long v))) ∧ cE t t'' u v (ansE y xs)) ∧ (¬ kn y = 3 → ∃ t'' v, cf_127 N X (Int32.ofNat (kn y)) (Int32.ofNat 0) t' = some (t'', .inl (some (.long v))) ∧ cE t t'' u v (ansE y xs)) := by
  have hk := kn_le (x := y)
  refine ⟨fun h3 => ?_, fun h3 => ?_⟩
  · obtain ⟨t2, v, b1, b2⟩ := cG.build (N := N) (X := X) (k := 3) hN H (Or.inr (Or.inr rfl)) hw hd hl (by omega) (by omega) (by omega) (by omega)
    refine ⟨t2, v, b1, ?_⟩
    unfold ansE
    rw [if_pos h3]
    exact b2
  · have H' := H
    obtain ⟨⟨h1, h2, h3', h4, h5, h6, h7, h8, h9⟩, -, -, -, -, hr⟩ := H'
    rw [Nat.zero_add] at h2
    cases xs with
    | nil =>
      have hok : mkOk (kn y) [] := by
        rcases (show kn y = 1 ∨ kn y = 2 by omega) with e | e
        · rw [e]; exact Or.inl ⟨rfl, fun x hx => by cases hx⟩
        · rw [e]; exact Or.inr (Or.inl ⟨rfl, fun x hx => by cases hx⟩)
      obtain ⟨t2, v, b1, b2⟩ := cG.build (N := N) (X := X) hN H hok hw hd hl (by omega) (by omega) (by omega) (by omega)
      refine ⟨t2, v, ?_, ?_⟩
      · have h2 : kI t' 42 3 = Int32.ofNat 0 := h2
        obtain ⟨N', rfl⟩ : ∃ N', N = N' + 1 := ⟨N - 1, by omega⟩
        have e5 : ∀ q : Int32, cf_127_L5 (N' + 1) X (N' + 1) 0 (Int32.ofNat 0) q (Int32.ofNat 1) (Int32.ofNat 0) t' = cf_127_44 (N' + 1) X (cf_127_L5 (N' + 1) X N') (Int32.ofNat 0) q (Int32.ofNat 1) (Int32.ofNat 0) t' := fun q => rfl
        rcases (show kn y = 1 ∨ kn y = 2 by omega) with e | e
        · rw [e] at b1 ⊢
          unfold cf_127 cf_127_0 cf_127_22 cf_127_23 cf_127_34 cf_127_39
          simp (disch := omega) only [ev_S, ev_C, ↓reduceIte, Nat.reduceEqDiff, Nat.reduceLeDiff, Nat.reduceAdd, Nat.reduceMul, Nat.reduceSub, reduceCtorEq, l32_0, l32_1, l32_2, l32_3, l32_4, l32_5, l32_6, l32_7, l32_8, l32_9, l32_10, l32_11, l32_12, l32_13, l32_14, l32_15, l32_16, l32_17, l32_18, l32_19, l32_20, l32_21, l32_22, l32_23, l32_24, l32_25, l32_26, l32_27, l32_28, l32_29, l32_33, l32_40, l32_41, l32_44, l32_45, l32_59, l32_61, l32_91, l32_93, l32_123, l32_125, h2, e5]
          unfold cf_127_44 cf_127_87 cf_127_92 cf_127_98 cf_127_105
          simp (disch := omega) only [ev_S, ev_C, ↓reduceIte, Nat.reduceEqDiff, Nat.reduceLeDiff, Nat.reduceAdd, Nat.reduceMul, Nat.reduceSub, reduceCtorEq, l32_0, l32_1, l32_2, l32_3, l32_4, l32_5, l32_6, l32_7, l32_8, l32_9, l32_10, l32_11, l32_12, l32_13, l32_14, l32_15, l32_16, l32_17, l32_18, l32_19, l32_20, l32_21, l32_22, l32_23, l32_24, l32_25, l32_26, l32_27, l32_28, l32_29, l32_33, l32_40, l32_41, l32_44, l32_45, l32_59, l32_61, l32_91, l32_93, l32_123, l32_125, h2, b1]
        · rw [e] at b1 ⊢
          unfold cf_127 cf_127_0 cf_127_22 cf_127_23 cf_127_29 cf_127_34 cf_127_39
          simp (disch := omega) only [ev_S, ev_C, ↓reduceIte, Nat.reduceEqDiff, Nat.reduceLeDiff, Nat.reduceAdd, Nat.reduceMul, Nat.reduceSub, reduceCtorEq, l32_0, l32_1, l32_2, l32_3, l32_4, l32_5, l32_6, l32_7, l32_8, l32_9, l32_10, l32_11, l32_12, l32_13, l32_14, l32_15, l32_16, l32_17, l32_18, l32_19, l32_20, l32_21, l32_22, l32_23, l32_24, l32_25, l32_26, l32_27, l32_28, l32_29, l32_33, l32_40, l32_41, l32_44, l32_45, l32_59, l32_61, l32_91, l32_93, l32_123, l32_125, h2, e5]
          unfold cf_127_44 cf_127_87 cf_127_92 cf_127_98 cf_127_105
          simp (disch := omega) only [ev_S, ev_C, ↓reduceIte, Nat.reduceEqDiff, Nat.reduceLeDiff, Nat.reduceAdd, Nat.reduceMul, Nat.reduceSub, reduceCtorEq, l32_0, l32_1, l32_2, l32_3, l32_4, l32_5, l32_6, l32_7, l32_8, l32_9, l32_10, l32_11, l32_12, l32_13, l32_14, l32_15, l32_16, l32_17, l32_18, l32_19, l32_20, l32_21, l32_22, l32_23, l32_24, l32_25, l32_26, l32_27, l32_28, l32_29, l32_33, l32_40, l32_41, l32_44, l32_45, l32_59, l32_61, l32_91, l32_93, l32_123, l32_125, h2, b1]
      · unfold ansE
        rw [if_neg h3, if_pos rfl]
        exact b2
    | cons x xs =>
      obtain ⟨t2, v, b1, b2⟩ := c_lit (N := N) (X := X) hN H hw hd hl hu
      refine ⟨t2, v, ?_, ?_⟩
      · have h2 : kI t' 42 3 = Int32.ofNat (xs.length + 1) := h2
        have hl' : xs.length + 1 ≤ 3000 := hl
        have n0 : ¬ xs.length + 1 ≤ 0 := by omega
        rw [← b1]
        have e1 : ∀ q : Int32, cf_127 N X q (Int32.ofNat 0) t' = cf_127_8 N X (Int32.ofNat 0) t' := fun q => by
          unfold cf_127 cf_127_0
          simp (disch := omega) only [ev_S, ev_C, ↓reduceIte, Nat.reduceEqDiff, Nat.reduceLeDiff, Nat.reduceAdd, Nat.reduceMul, Nat.reduceSub, reduceCtorEq, l32_0, l32_1, l32_2, l32_3, l32_4, l32_5, l32_6, l32_7, l32_8, l32_9, l32_10, l32_11, l32_12, l32_13, l32_14, l32_15, l32_16, l32_17, l32_18, l32_19, l32_20, l32_21, l32_22, l32_23, l32_24, l32_25, l32_26, l32_27, l32_28, l32_29, l32_33, l32_40, l32_41, l32_44, l32_45, l32_59, l32_61, l32_91, l32_93, l32_123, l32_125, h2, n0]
        rw [e1, e1]
      · unfold ansE
        rw [if_neg h3, if_neg (by intro q; cases q)]
        exact b2
end EAC
