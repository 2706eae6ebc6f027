/-! ===== PURE: run (62): same, the reference ===== -/
section SAR
variable {N : Nat} {s s' : mS} {n f m : Nat} {x y : Nod} {ys : List Nod} {xv yv : Int32}
theorem fD.v (h : fD s s') : vfr n f s s' ∧ s'.1 62 = s.1 62 ∧ s'.1 66 = s.1 66 ∧ s'.1 67 = s.1 67 ∧ s'.1 48 = s.1 48 := by
  refine ⟨⟨⟨fun q r => h.1 q (fun z => r ?_), h.2.1, fun q r => h.2.2.1 q (fun z => r ?_), h.2.2.2⟩, fun y hy => ?_, fun y hy => ?_⟩, h.1 _ (by omega), h.1 _ (by omega), h.1 _ (by omega), h.1 _ (by omega)⟩
  · unfold vfI
    omega
  · unfold vfA
    omega
  · rw [h.2.2.1 49 (by omega), h.2.2.1 50 (by omega)]
    exact ⟨rfl, rfl⟩
  · rw [h.2.2.1 47 (by omega)]
theorem rG.nilD (h48 : s.1 48 = Int32.ofNat f) (h : fD s s') : rG s (mI s' 51 (Int32.ofNat n)) n f f [] := by
  obtain ⟨v1, v2, v3, v4, v5⟩ := fD.v (n := n) (f := f) h
  exact ⟨⟨rfl, v5.trans h48, Nat.le_refl _⟩, fun i hi => absurd hi (Nat.not_lt_zero _), vfr.set (by unfold vfI; omega) v1, v2, v3, v4⟩
theorem sam_end (H : rA s n f m ys) (h : fD s s') : (∃ s2, mf_347_236 N (Int32.ofNat n) s' = some (s2, none) ∧ rE s s2 n f m (.inr (nZ (Int32.ofNat 0)))) ∧ (∃ s2, mf_347_232 N (Int32.ofNat n) s' = some (s2, none) ∧ rE s s2 n f m (.inr (nZ (Int32.ofNat 1)))) := by
  have H' := H
  obtain ⟨-, H2, H3, H4, H5, H6, H7, H8, H9, H10⟩ := H'
  have G := rG.nilD (n := n) H2 h
  constructor
  · obtain ⟨s2, p1, p2⟩ := rG.pushZ (N := N) G (by show n + 0 < 9000; omega) (Int32.ofNat 0)
    refine ⟨s2, ?_, rG.int H p2 rfl⟩
    unfold mf_347_236 mf_347_237 mf_347_256 mf_347_257 mf_347_260
    simp (disch := omega) only [ev_S, ev_P, ↓reduceIte, Nat.reduceEqDiff, Nat.reduceLeDiff, Nat.reduceAdd, Nat.reduceMul, Nat.reduceSub, reduceCtorEq, l32_0, l32_1, l32_2, l32_3, l32_4, l32_5, l32_6, l32_7, l32_8, l32_9, l32_10, l32_11, l32_12, l32_13, l32_14, l32_15, l32_16, l32_17, l32_18, l32_19, l32_20, l32_21, l32_22, l32_23, l32_24, l32_25, l32_26, l32_27, l32_28, l32_29, l32_33, l32_40, l32_41, l32_44, l32_45, l32_59, l32_61, l32_91, l32_93, l32_123, l32_125, p1]
  · obtain ⟨s2, p1, p2⟩ := rG.pushZ (N := N) G (by show n + 0 < 9000; omega) (Int32.ofNat 1)
    refine ⟨s2, ?_, rG.int H p2 rfl⟩
    unfold mf_347_232 mf_347_237 mf_347_252 mf_347_257 mf_347_260
    simp (disch := omega) only [ev_S, ev_P, ↓reduceIte, Nat.reduceEqDiff, Nat.reduceLeDiff, Nat.reduceAdd, Nat.reduceMul, Nat.reduceSub, reduceCtorEq, l32_0, l32_1, l32_2, l32_3, l32_4, l32_5, l32_6, l32_7, l32_8, l32_9, l32_10, l32_11, l32_12, l32_13, l32_14, l32_15, l32_16, l32_17, l32_18, l32_19, l32_20, l32_21, l32_22, l32_23, l32_24, l32_25, l32_26, l32_27, l32_28, l32_29, l32_33, l32_40, l32_41, l32_44, l32_45, l32_59, l32_61, l32_91, l32_93, l32_123, l32_125, p1]
/-- same -/
theorem r_same (hN : 170000 ≤ N) (H : rA s n f m ys) (hx : rvl (s.2.2.1 47) f (s.2.2.1 49 n) xv x) (hy : rvl (s.2.2.1 47) f (s.2.2.1 49 (n + 1)) yv y) (wx : wfN x) (wy : wfN y) (dx : x.1 ≤ 4) (dy : y.1 ≤ 4) : ∃ s', mf_347_186 N xv yv (Int32.ofNat n) s = some (s', none) ∧ rE s s' n f m (.inr (nZ (sb1 (serN x = serN y)))) := by
  have H' := H
  obtain ⟨-, H2, H3, H4, H5, H6, H7, H8, H9, H10⟩ := H'
  have g1 : ¬ 9000 ≤ n := by omega
  have g2 : ¬ 9000 ≤ n + 1 := by omega
  have lx := kn_le (x := x)
  have ly := kn_le (x := y)
  have D := sam_end (N := N) H (mfr.rf (s := s))
  have hne : ¬ kn x = kn y → ¬ serN x = serN y := fun ck e => by
    obtain ⟨l1, e1⟩ := ser_hd (x := x)
    obtain ⟨l2, e2⟩ := ser_hd (x := y)
    rw [e1, e2] at e
    exact ck (ofNat_inj (by omega) (by omega) (List.cons.inj e).1)
  by_cases c0 : kn x = 0
  · obtain ⟨k1, v1⟩ := hx.iv c0
    by_cases d0 : kn y = 0
    · obtain ⟨k2, v2⟩ := hy.iv d0
      by_cases e : ivN x = ivN y
      · rw [show sb1 (serN x = serN y) = Int32.ofNat 1 from if_pos (by rw [ser_0 c0, ser_0 d0, e])]
        obtain ⟨s2, p1, p2⟩ := D.2
        refine ⟨s2, ?_, p2⟩
        have q : xv = yv := by rw [v1, v2, e]
        unfold mf_347_186 mf_347_205 mf_347_215 mf_347_220
        simp (disch := omega) only [ev_S, ev_P, ↓reduceIte, Nat.reduceEqDiff, Nat.reduceLeDiff, Nat.reduceAdd, Nat.reduceMul, Nat.reduceSub, reduceCtorEq, l32_0, l32_1, l32_2, l32_3, l32_4, l32_5, l32_6, l32_7, l32_8, l32_9, l32_10, l32_11, l32_12, l32_13, l32_14, l32_15, l32_16, l32_17, l32_18, l32_19, l32_20, l32_21, l32_22, l32_23, l32_24, l32_25, l32_26, l32_27, l32_28, l32_29, l32_33, l32_40, l32_41, l32_44, l32_45, l32_59, l32_61, l32_91, l32_93, l32_123, l32_125, g1, g2, k1, k2, p1, q]
      · rw [show sb1 (serN x = serN y) = Int32.ofNat 0 from if_neg (fun q => by
          rw [ser_0 c0, ser_0 d0] at q
          exact e (List.cons.inj (List.cons.inj q).2).1)]
        obtain ⟨s2, p1, p2⟩ := D.1
        refine ⟨s2, ?_, p2⟩
        have q : ¬ xv = yv := by rw [v1, v2]; exact e
        unfold mf_347_186 mf_347_205 mf_347_215
        simp (disch := omega) only [ev_S, ev_P, ↓reduceIte, Nat.reduceEqDiff, Nat.reduceLeDiff, Nat.reduceAdd, Nat.reduceMul, Nat.reduceSub, reduceCtorEq, l32_0, l32_1, l32_2, l32_3, l32_4, l32_5, l32_6, l32_7, l32_8, l32_9, l32_10, l32_11, l32_12, l32_13, l32_14, l32_15, l32_16, l32_17, l32_18, l32_19, l32_20, l32_21, l32_22, l32_23, l32_24, l32_25, l32_26, l32_27, l32_28, l32_29, l32_33, l32_40, l32_41, l32_44, l32_45, l32_59, l32_61, l32_91, l32_93, l32_123, l32_125, g1, g2, k1, k2, p1, q]
    · obtain ⟨k2, -⟩ := hy.th d0
      rw [show sb1 (serN x = serN y) = Int32.ofNat 0 from if_neg (hne (by omega))]
      obtain ⟨s2, p1, p2⟩ := D.1
      refine ⟨s2, ?_, p2⟩
      unfold mf_347_186
      simp (disch := omega) only [ev_S, ev_P, ↓reduceIte, Nat.reduceEqDiff, Nat.reduceLeDiff, Nat.reduceAdd, Nat.reduceMul, Nat.reduceSub, reduceCtorEq, l32_0, l32_1, l32_2, l32_3, l32_4, l32_5, l32_6, l32_7, l32_8, l32_9, l32_10, l32_11, l32_12, l32_13, l32_14, l32_15, l32_16, l32_17, l32_18, l32_19, l32_20, l32_21, l32_22, l32_23, l32_24, l32_25, l32_26, l32_27, l32_28, l32_29, l32_33, l32_40, l32_41, l32_44, l32_45, l32_59, l32_61, l32_91, l32_93, l32_123, l32_125, g1, g2, k1, k2, p1]
  · obtain ⟨k1, a, v1, La⟩ := hx.th c0
    by_cases d0 : kn y = 0
    · obtain ⟨k2, -⟩ := hy.iv d0
      rw [show sb1 (serN x = serN y) = Int32.ofNat 0 from if_neg (hne (by omega))]
      obtain ⟨s2, p1, p2⟩ := D.1
      refine ⟨s2, ?_, p2⟩
      unfold mf_347_186
      simp (disch := omega) only [ev_S, ev_P, ↓reduceIte, Nat.reduceEqDiff, Nat.reduceLeDiff, Nat.reduceAdd, Nat.reduceMul, Nat.reduceSub, reduceCtorEq, l32_0, l32_1, l32_2, l32_3, l32_4, l32_5, l32_6, l32_7, l32_8, l32_9, l32_10, l32_11, l32_12, l32_13, l32_14, l32_15, l32_16, l32_17, l32_18, l32_19, l32_20, l32_21, l32_22, l32_23, l32_24, l32_25, l32_26, l32_27, l32_28, l32_29, l32_33, l32_40, l32_41, l32_44, l32_45, l32_59, l32_61, l32_91, l32_93, l32_123, l32_125, g1, g2, k1, k2, p1]
    · obtain ⟨k2, b, v2, Lb⟩ := hy.th d0
      have d1 : dN x ≤ 4 := Nat.le_trans (dT_le _ _) dx
      have d2 : dN y ≤ 4 := Nat.le_trans (dT_le _ _) dy
      obtain ⟨s1, q1, q2⟩ := r_areSame (N := N) (s := s) hN (R := Rf f) (R' := Rf f) (fun y (hy : y < f ∧ _) => by have := hy.1; omega) (fun y (hy : y < f ∧ _) => by have := hy.1; omega) (cs_lay d1 La) (cs_lay d2 Lb) (cs_wf d1 wx) (cs_wf d2 wy)
      rw [cs_ser d1, cs_ser d2] at q1
      have D := sam_end (N := N) H q2
      rw [v1, v2]
      by_cases e : serN x = serN y
      · rw [if_pos e] at q1
        have q1 : mf_346 N (Int32.ofNat a) (Int32.ofNat b) s = some (s1, some (.int (Int32.ofNat 1))) := q1
        rw [show sb1 (serN x = serN y) = Int32.ofNat 1 from if_pos e]
        obtain ⟨s2, p1, p2⟩ := D.2
        refine ⟨s2, ?_, p2⟩
        unfold mf_347_186 mf_347_205 mf_347_223 mf_347_229
        simp (disch := omega) only [ev_S, ev_P, ↓reduceIte, Nat.reduceEqDiff, Nat.reduceLeDiff, Nat.reduceAdd, Nat.reduceMul, Nat.reduceSub, reduceCtorEq, l32_0, l32_1, l32_2, l32_3, l32_4, l32_5, l32_6, l32_7, l32_8, l32_9, l32_10, l32_11, l32_12, l32_13, l32_14, l32_15, l32_16, l32_17, l32_18, l32_19, l32_20, l32_21, l32_22, l32_23, l32_24, l32_25, l32_26, l32_27, l32_28, l32_29, l32_33, l32_40, l32_41, l32_44, l32_45, l32_59, l32_61, l32_91, l32_93, l32_123, l32_125, g1, g2, k1, k2, p1, q1]
      · rw [if_neg e] at q1
        have q1 : mf_346 N (Int32.ofNat a) (Int32.ofNat b) s = some (s1, some (.int (Int32.ofNat 0))) := q1
        rw [show sb1 (serN x = serN y) = Int32.ofNat 0 from if_neg e]
        obtain ⟨s2, p1, p2⟩ := D.1
        refine ⟨s2, ?_, p2⟩
        unfold mf_347_186 mf_347_205 mf_347_223 mf_347_229
        simp (disch := omega) only [ev_S, ev_P, ↓reduceIte, Nat.reduceEqDiff, Nat.reduceLeDiff, Nat.reduceAdd, Nat.reduceMul, Nat.reduceSub, reduceCtorEq, l32_0, l32_1, l32_2, l32_3, l32_4, l32_5, l32_6, l32_7, l32_8, l32_9, l32_10, l32_11, l32_12, l32_13, l32_14, l32_15, l32_16, l32_17, l32_18, l32_19, l32_20, l32_21, l32_22, l32_23, l32_24, l32_25, l32_26, l32_27, l32_28, l32_29, l32_33, l32_40, l32_41, l32_44, l32_45, l32_59, l32_61, l32_91, l32_93, l32_123, l32_125, g1, g2, k1, k2, p1, q1]
end SAR
