/-! ===== PURE: run (24): the signs between two values, the reference: the rows ===== -/
/-- an operand of a row, as the reference has it: no place and an INT, or a ROW's place -/
def opR (h : Nat → Int32) (f : Nat) (ad z : Int32) (p : Opd) (L : Nat) : Prop := (ad = -Int32.ofNat 1 ∧ p = .inl z) ∨ ∃ a r, ad = Int32.ofNat a ∧ p = .inr r ∧ LayN h (Rf f) a (nR r) ∧ r.length = L
section TWQ
variable {N sg : Nat} {s s' : mS} {n f f' m i L : Nat} {x y : Nod} {xs ys : List Nod} {x1 x10 x11 x13 x14 x15 xk xv yk yv x8 x9 : Int32} {p q : Opd}
theorem range_map_s {α : Type} {g : Nat → α} {j : Nat} : (List.range (j + 1)).map g = (List.range j).map g ++ [g j] := by
  rw [List.range_succ, List.map_append, List.map_cons, List.map_nil]
theorem r_in (hs : isS sg) (H : rA s n f m ys) (hL : L ≤ 64) (hR : rsz p q = L) (hx0 : x1 = Int32.ofNat sg) (h9 : x9 = bI (dv sg)) (op : opR (s.2.2.1 47) f x14 xv p L) (oq : opR (s.2.2.1 47) f x15 yv q L) (hn : n + xs.length + L + 1 < 9000) (hf300 : f' ≤ f + 300) (F : Nat) (G : rG s s' n f f' xs) : (∃ s2, (rG s s2 n f f' (xs ++ (row2 sg p q).map nZ) ∧ bad2 sg p q = false) ∧ mf_321_L9 N (F + L) 1 x1 x10 x11 x13 x14 x15 (Int32.ofNat L) (Int32.ofNat (n + xs.length)) (Int32.ofNat 0) xk xv yk yv x8 x9 s' = mf_321_L9 N F 1 x1 x10 x11 x13 x14 x15 (Int32.ofNat L) (Int32.ofNat (n + xs.length)) (Int32.ofNat L) xk xv yk yv x8 x9 s2) ∨ (bad2 sg p q = true ∧ ∃ s2, mf_321_L9 N (F + L) 1 x1 x10 x11 x13 x14 x15 (Int32.ofNat L) (Int32.ofNat (n + xs.length)) (Int32.ofNat 0) xk xv yk yv x8 x9 s' = some (s2, none) ∧ rE s s2 n f m (.inl 6)) := by
  have key := lpi (fun F j (s' : mS) => mf_321_L9 N F 1 x1 x10 x11 x13 x14 x15 (Int32.ofNat L) (Int32.ofNat (n + xs.length)) (Int32.ofNat j) xk xv yk yv x8 x9 s') L (fun j s' => rG s s' n f f' (xs ++ ((List.range j).map fun j => ac sg (at2 p j) (at2 q j)).map nZ) ∧ ((List.range j).any fun j => dv sg && (at2 q j == 0)) = false) (fun R => bad2 sg p q = true ∧ ∃ s2, R = some (s2, none) ∧ rE s s2 n f m (.inl 6)) (by
    intro F j s1 hj hP
    obtain ⟨G, hnb⟩ := hP
    have n1 : ¬ L ≤ j := by omega
    have G3 := G.2.2.1.2.2
    have E1 : mf_321_L9 N (F + 1) 1 x1 x10 x11 x13 x14 x15 (Int32.ofNat L) (Int32.ofNat (n + xs.length)) (Int32.ofNat j) xk xv yk yv x8 x9 s1 = mf_321_442 N (mf_321_L9 N F) x1 xk xv yk yv x8 x9 x10 x11 x13 x14 x15 (Int32.ofNat L) (Int32.ofNat (n + xs.length)) (Int32.ofNat j) (at2 p j) s1 := by
      show mf_321_414 N (mf_321_L9 N F) x1 xk xv yk yv x8 x9 x10 x11 x13 x14 x15 (Int32.ofNat L) (Int32.ofNat (n + xs.length)) (Int32.ofNat j) s1 = _
      rcases op with ⟨o1, o2⟩ | ⟨a, r, o1, o2, o3, o4⟩
      · rw [o2]
        show _ = mf_321_442 N (mf_321_L9 N F) x1 xk xv yk yv x8 x9 x10 x11 x13 x14 x15 (Int32.ofNat L) (Int32.ofNat (n + xs.length)) (Int32.ofNat j) xv s1
        rw [o1]
        unfold mf_321_414 mf_321_421 mf_321_441
        simp (disch := omega) only [ev_S, ev_P, ↓reduceIte, Nat.reduceEqDiff, Nat.reduceLeDiff, Nat.reduceAdd, Nat.reduceMul, Nat.reduceSub, reduceCtorEq, l32_0, l32_1, l32_2, l32_3, l32_4, l32_5, l32_6, l32_7, l32_8, l32_9, l32_10, l32_11, l32_12, l32_13, l32_14, l32_15, l32_16, l32_17, l32_18, l32_19, l32_20, l32_21, l32_22, l32_23, l32_24, l32_25, l32_26, l32_27, l32_28, l32_29, l32_33, l32_40, l32_41, l32_44, l32_45, l32_59, l32_61, l32_91, l32_93, l32_123, l32_125, n1]
      · rw [o2]
        have hjr : j < r.length := by omega
        have hlt := (LayN.lt o3).1
        rw [show wV wn (vw (nR r)) = 2 + r.length from rfl] at hlt
        have hc : s1.2.2.1 47 (a + 2 + j) = at2 (.inr r) j := by
          rw [G3 _ (by omega)]
          show _ = r.getD j 0
          rw [List.getD_eq_getElem?_getD, List.getElem?_eq_getElem hjr]
          exact ((LayN_iff.mp o3).2).2.2 j hjr
        obtain ⟨-, -, -, -, -, H6, -⟩ := H
        rw [o1]
        unfold mf_321_414 mf_321_421 mf_321_426
        simp (disch := omega) only [ev_S, ev_P, ↓reduceIte, Nat.reduceEqDiff, Nat.reduceLeDiff, Nat.reduceAdd, Nat.reduceMul, Nat.reduceSub, reduceCtorEq, l32_0, l32_1, l32_2, l32_3, l32_4, l32_5, l32_6, l32_7, l32_8, l32_9, l32_10, l32_11, l32_12, l32_13, l32_14, l32_15, l32_16, l32_17, l32_18, l32_19, l32_20, l32_21, l32_22, l32_23, l32_24, l32_25, l32_26, l32_27, l32_28, l32_29, l32_33, l32_40, l32_41, l32_44, l32_45, l32_59, l32_61, l32_91, l32_93, l32_123, l32_125, n1, hc]
    have E2 : mf_321_442 N (mf_321_L9 N F) x1 xk xv yk yv x8 x9 x10 x11 x13 x14 x15 (Int32.ofNat L) (Int32.ofNat (n + xs.length)) (Int32.ofNat j) (at2 p j) s1 = mf_321_466 N (mf_321_L9 N F) x1 xk xv yk yv x8 x9 x10 x11 x13 x14 x15 (Int32.ofNat L) (Int32.ofNat (n + xs.length)) (Int32.ofNat j) (at2 p j) (at2 q j) s1 := by
      rcases oq with ⟨o1, o2⟩ | ⟨a, r, o1, o2, o3, o4⟩
      · rw [o2]
        show _ = mf_321_466 N (mf_321_L9 N F) x1 xk xv yk yv x8 x9 x10 x11 x13 x14 x15 (Int32.ofNat L) (Int32.ofNat (n + xs.length)) (Int32.ofNat j) (at2 p j) yv s1
        rw [o1]
        unfold mf_321_442 mf_321_464
        simp (disch := omega) only [ev_S, ev_P, ↓reduceIte, Nat.reduceEqDiff, Nat.reduceLeDiff, Nat.reduceAdd, Nat.reduceMul, Nat.reduceSub, reduceCtorEq, l32_0, l32_1, l32_2, l32_3, l32_4, l32_5, l32_6, l32_7, l32_8, l32_9, l32_10, l32_11, l32_12, l32_13, l32_14, l32_15, l32_16, l32_17, l32_18, l32_19, l32_20, l32_21, l32_22, l32_23, l32_24, l32_25, l32_26, l32_27, l32_28, l32_29, l32_33, l32_40, l32_41, l32_44, l32_45, l32_59, l32_61, l32_91, l32_93, l32_123, l32_125]
      · rw [o2]
        have hjr : j < r.length := by omega
        have hlt := (LayN.lt o3).1
        rw [show wV wn (vw (nR r)) = 2 + r.length from rfl] at hlt
        have hc : s1.2.2.1 47 (a + 2 + j) = at2 (.inr r) j := by
          rw [G3 _ (by omega)]
          show _ = r.getD j 0
          rw [List.getD_eq_getElem?_getD, List.getElem?_eq_getElem hjr]
          exact ((LayN_iff.mp o3).2).2.2 j hjr
        obtain ⟨-, -, -, -, -, H6, -⟩ := H
        rw [o1]
        unfold mf_321_442 mf_321_449
        simp (disch := omega) only [ev_S, ev_P, ↓reduceIte, Nat.reduceEqDiff, Nat.reduceLeDiff, Nat.reduceAdd, Nat.reduceMul, Nat.reduceSub, reduceCtorEq, l32_0, l32_1, l32_2, l32_3, l32_4, l32_5, l32_6, l32_7, l32_8, l32_9, l32_10, l32_11, l32_12, l32_13, l32_14, l32_15, l32_16, l32_17, l32_18, l32_19, l32_20, l32_21, l32_22, l32_23, l32_24, l32_25, l32_26, l32_27, l32_28, l32_29, l32_33, l32_40, l32_41, l32_44, l32_45, l32_59, l32_61, l32_91, l32_93, l32_123, l32_125, hc]
    show (∃ a' : mS, _ ∧ mf_321_L9 N (F + 1) 1 _ _ _ _ _ _ _ _ _ _ _ _ _ _ _ s1 = _) ∨ bad2 sg p q = true ∧ ∃ s2, mf_321_L9 N (F + 1) 1 _ _ _ _ _ _ _ _ _ _ _ _ _ _ _ s1 = _ ∧ _
    rw [E1, E2]
    by_cases hbad : (dv sg && (at2 q j == 0)) = true
    · right
      have hb2 : bad2 sg p q = true := by
        unfold bad2
        exact any_t (by omega) hbad
      refine ⟨hb2, ?_⟩
      rw [Bool.and_eq_true] at hbad
      have hq0 : at2 q j = 0 := beq_iff_eq.mp hbad.2
      obtain ⟨b1, b2⟩ := rG.trb (N := N) H G hf300 6
      refine ⟨_, ?_, b2⟩
      rw [hq0, h9, hbad.1]
      simp only [bI]
      unfold mf_321_466 mf_321_473 mf_321_478 mf_321_488
      simp (disch := omega) only [ev_S, ev_P, ↓reduceIte, Nat.reduceEqDiff, Nat.reduceLeDiff, Nat.reduceAdd, Nat.reduceMul, Nat.reduceSub, reduceCtorEq, l32_0, l32_1, l32_2, l32_3, l32_4, l32_5, l32_6, l32_7, l32_8, l32_9, l32_10, l32_11, l32_12, l32_13, l32_14, l32_15, l32_16, l32_17, l32_18, l32_19, l32_20, l32_21, l32_22, l32_23, l32_24, l32_25, l32_26, l32_27, l32_28, l32_29, l32_33, l32_40, l32_41, l32_44, l32_45, l32_59, l32_61, l32_91, l32_93, l32_123, l32_125, b1]
    · left
      have hnd : ¬ (dv sg = true ∧ at2 q j = 0) := fun z => hbad (by rw [z.1, z.2]; rfl)
      have ra := r_act (N := N) (s := s1) (sg := sg) hs (a := at2 p j) (b := at2 q j) hnd
      have hll : (xs ++ ((List.range j).map fun j => ac sg (at2 p j) (at2 q j)).map nZ).length = xs.length + j := by rw [List.length_append, List.length_map, List.length_map, List.length_range]
      obtain ⟨s2, p1, p2⟩ := rG.pushZ (N := N) G (by rw [hll]; omega) (ac sg (at2 p j) (at2 q j))
      refine ⟨s2, ⟨?_, ?_⟩, ?_⟩
      · rw [range_map_s, List.map_append, ← List.append_assoc]
        exact p2
      · rw [any_s, hnb, Bool.false_or]
        exact Bool.eq_false_iff.mpr hbad
      · have E3 : mf_321_489 N (mf_321_L9 N F) x1 xk xv yk yv x8 x9 x10 x11 x13 x14 x15 (Int32.ofNat L) (Int32.ofNat (n + xs.length)) (Int32.ofNat j) (at2 p j) (at2 q j) s1 = mf_321_L9 N F 1 x1 x10 x11 x13 x14 x15 (Int32.ofNat L) (Int32.ofNat (n + xs.length)) (Int32.ofNat (j + 1)) xk xv yk yv x8 x9 s2 := by
          rw [hx0]
          unfold mf_321_489 mf_321_499 mf_321_502
          simp (disch := omega) only [ev_S, ev_P, ↓reduceIte, Nat.reduceEqDiff, Nat.reduceLeDiff, Nat.reduceAdd, Nat.reduceMul, Nat.reduceSub, reduceCtorEq, l32_0, l32_1, l32_2, l32_3, l32_4, l32_5, l32_6, l32_7, l32_8, l32_9, l32_10, l32_11, l32_12, l32_13, l32_14, l32_15, l32_16, l32_17, l32_18, l32_19, l32_20, l32_21, l32_22, l32_23, l32_24, l32_25, l32_26, l32_27, l32_28, l32_29, l32_33, l32_40, l32_41, l32_44, l32_45, l32_59, l32_61, l32_91, l32_93, l32_123, l32_125, ra, p1]
        unfold mf_321_466
        cases hd : dv sg with
        | false =>
          rw [h9, hd, if_pos (show bI false = 0 from rfl), ← hd, ← h9]
          exact E3
        | true =>
          have hb : ¬ at2 q j = 0 := fun z => hnd ⟨hd, z⟩
          unfold mf_321_473
          rw [h9, hd, if_neg (show ¬ bI true = 0 by decide), if_pos hb, ← hd, ← h9]
          exact E3)
  have k0 := key L 0 F s' (Nat.zero_add _) ⟨by rw [List.range_zero, List.map_nil, List.map_nil, List.append_nil]; exact G, rfl⟩
  rcases k0 with ⟨s2, ⟨g1, g2⟩, g3⟩ | h
  · left
    refine ⟨s2, ⟨?_, ?_⟩, g3⟩
    · unfold row2
      rw [hR]
      exact g1
    · unfold bad2
      rw [hR]
      exact g2
  · exact Or.inr h
end TWQ
