-- ### 97a.pure.lean.txt
section
/-! ===== PURE: run (54): turn, both ===== -/
section TRR
variable {N : Nat} {X : Nat → Option zz_C} {s s' : mS} {t t' : cS} {n f f' m a i j u w : Nat} {x : Nod} {xs ys : List Nod} {vx : Int64}
theorem r_most {p q : Nat} (hp : p < 2147483648) (hq : q < 2147483648) : mf_326 N (Int32.ofNat p) (Int32.ofNat q) s = some (s, some (.int (Int32.ofNat (Nat.max p q)))) := by
  by_cases c : p ≤ q
  · rw [show Nat.max p q = q from Nat.max_eq_right c]
    unfold mf_326 mf_326_0 mf_326_9 mf_326_10
    simp (disch := omega) only [ev_S, ev_P, ↓reduceIte, Nat.reduceEqDiff, Nat.reduceLeDiff, Nat.reduceAdd, Nat.reduceMul, Nat.reduceSub, reduceCtorEq, l32_0, l32_1, l32_2, l32_3, l32_4, l32_5, l32_6, l32_7, l32_8, l32_9, l32_10, l32_11, l32_12, l32_13, l32_14, l32_15, l32_16, l32_17, l32_18, l32_19, l32_20, l32_21, l32_22, l32_23, l32_24, l32_25, l32_26, l32_27, l32_28, l32_29, l32_33, l32_40, l32_41, l32_44, l32_45, l32_59, l32_61, l32_91, l32_93, l32_123, l32_125, c]
  · rw [show Nat.max p q = p from Nat.max_eq_left (by omega)]
    unfold mf_326 mf_326_0 mf_326_5 mf_326_10
    simp (disch := omega) only [ev_S, ev_P, ↓reduceIte, Nat.reduceEqDiff, Nat.reduceLeDiff, Nat.reduceAdd, Nat.reduceMul, Nat.reduceSub, reduceCtorEq, l32_0, l32_1, l32_2, l32_3, l32_4, l32_5, l32_6, l32_7, l32_8, l32_9, l32_10, l32_11, l32_12, l32_13, l32_14, l32_15, l32_16, l32_17, l32_18, l32_19, l32_20, l32_21, l32_22, l32_23, l32_24, l32_25, l32_26, l32_27, l32_28, l32_29, l32_33, l32_40, l32_41, l32_44, l32_45, l32_59, l32_61, l32_91, l32_93, l32_123, l32_125, c]
theorem r_turn (hN : 170000 ≤ N) (H : rA s n f m ys) (La : LayN (s.2.2.1 47) (Rf f) a x) (c2 : kn x = 2) (wx : wfN x) : ∃ s', mf_335 N (Int32.ofNat 17) (Int32.ofNat a) (Int32.ofNat n) s = some (s', none) ∧ rE s s' n f m (ansTr (tvN x)) := by
  have H' := H
  obtain ⟨-, H2, H3, H4, H5, H6, H7, H8, H9, H10⟩ := H'
  have G0 : rG s (mI s 51 (Int32.ofNat n)) n f f [] := rG.nil H2
  obtain ⟨s1, hs1⟩ : ∃ s1, s1 = mI s 51 (Int32.ofNat n) := ⟨_, rfl⟩
  rw [← hs1] at G0
  have T := fun k => rG.trb (N := N) H G0 (by omega) k
  have kd : s.2.2.1 47 a = Int32.ofNat 2 := by rw [(LayN_iff.mp La).2.kd.1, ← c2]; exact kd_kn
  have hla := (LayN.lt La)
  have tw := tv_wf c2 wx
  have esz := kn2_sz c2
  have SZ := fun s2 fx xs (G : rG s s2 n f fx xs) => rG.size (N := N) G La (by omega)
  rw [esz] at SZ
  have PT := fun i (hi : i < (tvN x).length) s2 fx xs (G : rG s s2 n f fx xs) => rG.partT (N := N) G La (by omega) c2 hi
  generalize tvN x = q at *
  have hw64 : ∀ i, wid (q.take i) ≤ 64 := fun i => wid_le (fun r hr => tw.2.2 r (List.mem_of_mem_take hr))
  have E1 : mf_335 N (Int32.ofNat 17) (Int32.ofNat a) (Int32.ofNat n) s = mf_335_L14 N N 0 (Int32.ofNat a) (Int32.ofNat n) (Int32.ofNat 2) (Int32.ofNat 0) (Int32.ofNat 0) (Int32.ofNat 0) s1 := by
    rw [hs1]
    unfold mf_335 mf_335_0 mf_335_230 mf_335_239
    simp (disch := omega) only [ev_S, ev_P, ↓reduceIte, Nat.reduceEqDiff, Nat.reduceLeDiff, Nat.reduceAdd, Nat.reduceMul, Nat.reduceSub, reduceCtorEq, l32_0, l32_1, l32_2, l32_3, l32_4, l32_5, l32_6, l32_7, l32_8, l32_9, l32_10, l32_11, l32_12, l32_13, l32_14, l32_15, l32_16, l32_17, l32_18, l32_19, l32_20, l32_21, l32_22, l32_23, l32_24, l32_25, l32_26, l32_27, l32_28, l32_29, l32_33, l32_40, l32_41, l32_44, l32_45, l32_59, l32_61, l32_91, l32_93, l32_123, l32_125, kd]
  have E2 : mf_335_L14 N N 0 (Int32.ofNat a) (Int32.ofNat n) (Int32.ofNat 2) (Int32.ofNat 0) (Int32.ofNat 0) (Int32.ofNat 0) s1 = mf_335_357 N (Int32.ofNat a) (Int32.ofNat n) (Int32.ofNat 2) (Int32.ofNat (wid q)) (Int32.ofNat 0) s1 := by
    refine lp (fun F i (c : Nat) => mf_335_L14 N F 0 (Int32.ofNat a) (Int32.ofNat n) (Int32.ofNat 2) (Int32.ofNat c) (Int32.ofNat 0) (Int32.ofNat i) s1) q.length (fun i c => c = wid (q.take i)) (fun R => R = mf_335_357 N (Int32.ofNat a) (Int32.ofNat n) (Int32.ofNat 2) (Int32.ofNat (wid q)) (Int32.ofNat 0) s1) ?_ ?_ q.length 0 N 0 (Nat.zero_add _) (by omega) rfl
    · intro F i c hi hP _
      left
      have zz := SZ s1 _ _ G0
      have n1 : ¬ q.length ≤ i := by omega
      obtain ⟨c', d1, d2⟩ := PT i hi s1 _ _ G0
      have z3 := G0.size (N := N) d2 (by omega)
      have z3 : mf_77 N (Int32.ofNat c') s1 = some (s1, some (.int (Int32.ofNat q[i].length))) := z3
      have hq6 := tw.2.2 _ (List.getElem_mem hi)
      have hc6 := hw64 i
      rw [← hP] at hc6
      have mm := r_most (N := N) (s := s1) (p := c) (q := q[i].length) (by omega) (by omega)
      refine ⟨Nat.max c q[i].length, by rw [wid_s hi, hP], ?_⟩
      show mf_335_242 N (mf_335_L14 N F) (Int32.ofNat a) (Int32.ofNat n) (Int32.ofNat 2) (Int32.ofNat c) (Int32.ofNat 0) (Int32.ofNat i) s1 = _
      unfold mf_335_242 mf_335_249 mf_335_252 mf_335_262 mf_335_265 mf_335_268
      simp (disch := omega) only [ev_S, ev_P, ↓reduceIte, Nat.reduceEqDiff, Nat.reduceLeDiff, Nat.reduceAdd, Nat.reduceMul, Nat.reduceSub, reduceCtorEq, l32_0, l32_1, l32_2, l32_3, l32_4, l32_5, l32_6, l32_7, l32_8, l32_9, l32_10, l32_11, l32_12, l32_13, l32_14, l32_15, l32_16, l32_17, l32_18, l32_19, l32_20, l32_21, l32_22, l32_23, l32_24, l32_25, l32_26, l32_27, l32_28, l32_29, l32_33, l32_40, l32_41, l32_44, l32_45, l32_59, l32_61, l32_91, l32_93, l32_123, l32_125, zz, n1, d1, z3, mm]
    · intro F c hP
      rw [List.take_length] at hP
      rw [hP]
      have zz := SZ s1 _ _ G0
      show mf_335_242 N (mf_335_L14 N F) (Int32.ofNat a) (Int32.ofNat n) (Int32.ofNat 2) (Int32.ofNat (wid q)) (Int32.ofNat 0) (Int32.ofNat q.length) s1 = _
      generalize wid q = W at *
      unfold mf_335_242 mf_335_249 mf_335_276
      simp (disch := omega) only [ev_S, ev_P, ↓reduceIte, Nat.reduceEqDiff, Nat.reduceLeDiff, Nat.reduceAdd, Nat.reduceMul, Nat.reduceSub, reduceCtorEq, l32_0, l32_1, l32_2, l32_3, l32_4, l32_5, l32_6, l32_7, l32_8, l32_9, l32_10, l32_11, l32_12, l32_13, l32_14, l32_15, l32_16, l32_17, l32_18, l32_19, l32_20, l32_21, l32_22, l32_23, l32_24, l32_25, l32_26, l32_27, l32_28, l32_29, l32_33, l32_40, l32_41, l32_44, l32_45, l32_59, l32_61, l32_91, l32_93, l32_123, l32_125, zz]
  rw [E1, E2]
  have hW := hw64 q.length
  rw [List.take_length] at hW
  unfold ansTr
  by_cases c : 20 < wid q
  · rw [if_pos c]
    obtain ⟨b1, b2⟩ := T 2
    refine ⟨_, ?_, b2⟩
    have c' : ¬ wid q ≤ 20 := by omega
    generalize wid q = W at *
    unfold mf_335_357 mf_335_369 mf_335_377 mf_335_382 mf_335_389
    simp (disch := omega) only [ev_S, ev_P, ↓reduceIte, Nat.reduceEqDiff, Nat.reduceLeDiff, Nat.reduceAdd, Nat.reduceMul, Nat.reduceSub, reduceCtorEq, l32_0, l32_1, l32_2, l32_3, l32_4, l32_5, l32_6, l32_7, l32_8, l32_9, l32_10, l32_11, l32_12, l32_13, l32_14, l32_15, l32_16, l32_17, l32_18, l32_19, l32_20, l32_21, l32_22, l32_23, l32_24, l32_25, l32_26, l32_27, l32_28, l32_29, l32_33, l32_40, l32_41, l32_44, l32_45, l32_59, l32_61, l32_91, l32_93, l32_123, l32_125, c, c', b1]
  · rw [if_neg c]
    have hcs := col_sum q
    have E3 : mf_335_357 N (Int32.ofNat a) (Int32.ofNat n) (Int32.ofNat 2) (Int32.ofNat (wid q)) (Int32.ofNat 0) s1 = mf_335_L7 N N 0 (Int32.ofNat a) (Int32.ofNat n) (Int32.ofNat 2) (Int32.ofNat (wid q)) (Int32.ofNat 0) (Int32.ofNat 0) (Int32.ofNat 0) s1 := by
      generalize wid q = W at *
      unfold mf_335_357 mf_335_364 mf_335_390
      simp (disch := omega) only [ev_S, ev_P, ↓reduceIte, Nat.reduceEqDiff, Nat.reduceLeDiff, Nat.reduceAdd, Nat.reduceMul, Nat.reduceSub, reduceCtorEq, l32_0, l32_1, l32_2, l32_3, l32_4, l32_5, l32_6, l32_7, l32_8, l32_9, l32_10, l32_11, l32_12, l32_13, l32_14, l32_15, l32_16, l32_17, l32_18, l32_19, l32_20, l32_21, l32_22, l32_23, l32_24, l32_25, l32_26, l32_27, l32_28, l32_29, l32_33, l32_40, l32_41, l32_44, l32_45, l32_59, l32_61, l32_91, l32_93, l32_123, l32_125, c]
    rw [E3]
    refine lpo (fun F i (s' : mS) => mf_335_L7 N F 0 (Int32.ofNat a) (Int32.ofNat n) (Int32.ofNat 2) (Int32.ofNat (wid q)) (Int32.ofNat i) (Int32.ofNat 0) (Int32.ofNat 0) s') (wid q) 67 (fun i s' => rG s s' n f (f + (2 * ((List.range i).map (col q)).length + (((List.range i).map (col q)).map List.length).sum)) (((List.range i).map (col q)).map nR)) (fun R => ∃ s', R = some (s', none) ∧ rE s s' n f m (ansM 2 (((List.range (wid q)).map (col q)).map nR))) ?_ ?_ (wid q) 0 N s1 (Nat.zero_add _) (by omega) G0
    · intro F i s2 hi G
      left
      have hl0 : ((List.range i).map (col q)).length = i := by rw [List.length_map, List.length_range]
      have hll : (((List.range i).map (col q)).map nR).length = i := by rw [List.length_map, hl0]
      have hsi := Nat.le_trans (hcs i) tw.2.1
      have n1 : ¬ wid q ≤ i := by omega
      have sp := G.1.1
      rw [hll] at sp
      have E4 : mf_335_L7 N (F + 67) 0 (Int32.ofNat a) (Int32.ofNat n) (Int32.ofNat 2) (Int32.ofNat (wid q)) (Int32.ofNat i) (Int32.ofNat 0) (Int32.ofNat 0) s2 = mf_335_L7 N (F + 66) 1 (Int32.ofNat a) (Int32.ofNat n) (Int32.ofNat 2) (Int32.ofNat (wid q)) (Int32.ofNat i) (Int32.ofNat (n + i)) (Int32.ofNat 0) s2 := by
        show mf_335_393 N (mf_335_L7 N (F + 66)) (Int32.ofNat a) (Int32.ofNat n) (Int32.ofNat 2) (Int32.ofNat (wid q)) (Int32.ofNat i) s2 = _
        generalize wid q = W at *
        unfold mf_335_393 mf_335_400
        simp (disch := omega) only [ev_S, ev_P, ↓reduceIte, Nat.reduceEqDiff, Nat.reduceLeDiff, Nat.reduceAdd, Nat.reduceMul, Nat.reduceSub, reduceCtorEq, l32_0, l32_1, l32_2, l32_3, l32_4, l32_5, l32_6, l32_7, l32_8, l32_9, l32_10, l32_11, l32_12, l32_13, l32_14, l32_15, l32_16, l32_17, l32_18, l32_19, l32_20, l32_21, l32_22, l32_23, l32_24, l32_25, l32_26, l32_27, l32_28, l32_29, l32_33, l32_40, l32_41, l32_44, l32_45, l32_59, l32_61, l32_91, l32_93, l32_123, l32_125, n1, sp]
      rw [E4]
      rcases lpi (fun F j (s' : mS) => mf_335_L7 N F 1 (Int32.ofNat a) (Int32.ofNat n) (Int32.ofNat 2) (Int32.ofNat (wid q)) (Int32.ofNat i) (Int32.ofNat (n + i)) (Int32.ofNat j) s') q.length (fun j s' => rG s s' n f (f + (2 * ((List.range i).map (col q)).length + (((List.range i).map (col q)).map List.length).sum)) (((List.range i).map (col q)).map nR ++ (col (q.take j) i).map nZ)) (fun _ => False) (by
        intro F j s3 hj G3
        left
        have zz := SZ s3 _ _ G3
        have n2 : ¬ q.length ≤ j := by omega
        obtain ⟨c', d1, d2⟩ := PT j hj s3 _ _ G3
        have z3 := G3.size (N := N) d2 (by omega)
        have z3 : mf_77 N (Int32.ofNat c') s3 = some (s3, some (.int (Int32.ofNat q[j].length))) := z3
        have hq6 := tw.2.2 _ (List.getElem_mem hj)
        have hcl : (col (q.take j) i).length ≤ j := Nat.le_trans col_len (by rw [List.length_take]; omega)
        by_cases e : i < q[j].length
        · obtain ⟨s4, p1, p2⟩ := rG.elem (N := N) (i := i) (x := nR q[j]) G3 (by rw [List.length_append, hll, List.length_map]; omega) (by omega) d2 (by show _ < (q[j].map nZ).length; rw [List.length_map]; exact e)
          have eg : (pts (nR q[j]))[i]'(by show _ < (q[j].map nZ).length; rw [List.length_map]; exact e) = nZ (q[j].getD i 0) := by
            show (q[j].map nZ)[i]'_ = _
            rw [List.getElem_map, getD_e e]
          rw [eg] at p2
          refine ⟨s4, ?_, ?_⟩
          · rw [col_s hj, if_pos e, List.map_append, ← List.append_assoc]
            exact p2
          · show mf_335_409 N (mf_335_L7 N F) (Int32.ofNat a) (Int32.ofNat n) (Int32.ofNat 2) (Int32.ofNat (wid q)) (Int32.ofNat i) (Int32.ofNat (n + i)) (Int32.ofNat j) s3 = _
            have e' : ¬ q[j].length ≤ i := by omega
            generalize wid q = W at *
            unfold mf_335_409 mf_335_416 mf_335_419 mf_335_448 mf_335_454 mf_335_462 mf_335_465 mf_335_470 mf_335_478 mf_335_483
            simp (disch := omega) only [ev_S, ev_P, ↓reduceIte, Nat.reduceEqDiff, Nat.reduceLeDiff, Nat.reduceAdd, Nat.reduceMul, Nat.reduceSub, reduceCtorEq, l32_0, l32_1, l32_2, l32_3, l32_4, l32_5, l32_6, l32_7, l32_8, l32_9, l32_10, l32_11, l32_12, l32_13, l32_14, l32_15, l32_16, l32_17, l32_18, l32_19, l32_20, l32_21, l32_22, l32_23, l32_24, l32_25, l32_26, l32_27, l32_28, l32_29, l32_33, l32_40, l32_41, l32_44, l32_45, l32_59, l32_61, l32_91, l32_93, l32_123, l32_125, zz, n2, d1, z3, e', p1]
        · refine ⟨s3, ?_, ?_⟩
          · rw [col_s hj, if_neg e, List.append_nil]
            exact G3
          · show mf_335_409 N (mf_335_L7 N F) (Int32.ofNat a) (Int32.ofNat n) (Int32.ofNat 2) (Int32.ofNat (wid q)) (Int32.ofNat i) (Int32.ofNat (n + i)) (Int32.ofNat j) s3 = _
            have e' : q[j].length ≤ i := by omega
            generalize wid q = W at *
            unfold mf_335_409 mf_335_416 mf_335_419 mf_335_448 mf_335_454 mf_335_462 mf_335_465 mf_335_483
            simp (disch := omega) only [ev_S, ev_P, ↓reduceIte, Nat.reduceEqDiff, Nat.reduceLeDiff, Nat.reduceAdd, Nat.reduceMul, Nat.reduceSub, reduceCtorEq, l32_0, l32_1, l32_2, l32_3, l32_4, l32_5, l32_6, l32_7, l32_8, l32_9, l32_10, l32_11, l32_12, l32_13, l32_14, l32_15, l32_16, l32_17, l32_18, l32_19, l32_20, l32_21, l32_22, l32_23, l32_24, l32_25, l32_26, l32_27, l32_28, l32_29, l32_33, l32_40, l32_41, l32_44, l32_45, l32_59, l32_61, l32_91, l32_93, l32_123, l32_125, zz, n2, d1, z3, e']) q.length 0 (F + 66 - q.length) s2 (Nat.zero_add _) (by rw [List.take_zero, show (col [] i).map nZ = [] from rfl, List.append_nil]; exact G) with ⟨s3, G3, e3⟩ | h
      · rw [List.take_length] at G3
        rw [show F + 66 - q.length + q.length = F + 66 by omega] at e3
        have zz := SZ s3 _ _ G3
        have hcl : (col q i).length ≤ q.length := col_len
        obtain ⟨s4, w1, w2⟩ := rG.row (N := N) hN G3 (by rw [hll]; omega) (by omega)
        rw [hll] at w1
        refine ⟨s4, F + 65 - q.length, ?_, by omega, ?_⟩
        · rw [range_map_s, List.map_append, List.map_append, List.length_append, List.sum_append]
          have e : f + (2 * (((List.range i).map (col q)).length + [col q i].length) + ((((List.range i).map (col q)).map List.length).sum + ([col q i].map List.length).sum)) = f + (2 * ((List.range i).map (col q)).length + (((List.range i).map (col q)).map List.length).sum) + 2 + (col q i).length := by
            show f + (2 * (_ + 1) + (_ + ((col q i).length + 0))) = _
            omega
          rw [e]
          exact w2
        · show mf_335_L7 N (F + 66) 1 _ _ _ _ _ _ _ s2 = _
          rw [e3, show F + 66 - q.length = F + 65 - q.length + 1 by omega]
          show mf_335_409 N (mf_335_L7 N (F + 65 - q.length)) (Int32.ofNat a) (Int32.ofNat n) (Int32.ofNat 2) (Int32.ofNat (wid q)) (Int32.ofNat i) (Int32.ofNat (n + i)) (Int32.ofNat q.length) s3 = _
          generalize wid q = W at *
          unfold mf_335_409 mf_335_416 mf_335_489 mf_335_495
          simp (disch := omega) only [ev_S, ev_P, ↓reduceIte, Nat.reduceEqDiff, Nat.reduceLeDiff, Nat.reduceAdd, Nat.reduceMul, Nat.reduceSub, reduceCtorEq, l32_0, l32_1, l32_2, l32_3, l32_4, l32_5, l32_6, l32_7, l32_8, l32_9, l32_10, l32_11, l32_12, l32_13, l32_14, l32_15, l32_16, l32_17, l32_18, l32_19, l32_20, l32_21, l32_22, l32_23, l32_24, l32_25, l32_26, l32_27, l32_28, l32_29, l32_33, l32_40, l32_41, l32_44, l32_45, l32_59, l32_61, l32_91, l32_93, l32_123, l32_125, zz, w1]
      · exact h.elim
    · intro F s2 G
      have hlp : ((List.range (wid q)).map (col q)).length = wid q := by rw [List.length_map, List.length_range]
      have hsi := Nat.le_trans (hcs (wid q)) tw.2.1
      obtain ⟨s3, b1, b2⟩ := rA.bTab (N := N) hN H G (fun r' hr' => by
        obtain ⟨j, -, rfl⟩ := List.mem_map.mp hr'
        exact Nat.le_trans col_len (by omega)) (by rw [hlp]; omega) (by rw [hlp]; omega)
      refine ⟨s3, ?_, b2⟩
      show mf_335_393 N (mf_335_L7 N F) (Int32.ofNat a) (Int32.ofNat n) (Int32.ofNat 2) (Int32.ofNat (wid q)) (Int32.ofNat (wid q)) s2 = _
      generalize wid q = W at *
      unfold mf_335_393 mf_335_501 mf_335_507
      simp (disch := omega) only [ev_S, ev_P, ↓reduceIte, Nat.reduceEqDiff, Nat.reduceLeDiff, Nat.reduceAdd, Nat.reduceMul, Nat.reduceSub, reduceCtorEq, l32_0, l32_1, l32_2, l32_3, l32_4, l32_5, l32_6, l32_7, l32_8, l32_9, l32_10, l32_11, l32_12, l32_13, l32_14, l32_15, l32_16, l32_17, l32_18, l32_19, l32_20, l32_21, l32_22, l32_23, l32_24, l32_25, l32_26, l32_27, l32_28, l32_29, l32_33, l32_40, l32_41, l32_44, l32_45, l32_59, l32_61, l32_91, l32_93, l32_123, l32_125, b1]
theorem c_col (hN : 170000 ≤ N) (hh : cHp t u w) (hx : cN (cel t) u vx x) (c2 : kn x = 2) (wx : wfN x) (hj : j < 64) (hw : w ≤ 2000) (hu : u ≤ 164000) : ∃ t2 v2, cf_105 N X vx (Int32.ofNat (tvN x).length) (Int32.ofNat j) t = some (t2, .inl (some (.long v2))) ∧ cG t t2 u (u + 1 + (col (tvN x) j).length) w [] ∧ cN (cel t2) (u + 1 + (col (tvN x) j).length) v2 (nR (col (tvN x) j)) := by
  have ga := c_gathered (N := N) (X := X) hh
  have tw := tv_wf c2 wx
  have PT := fun i (hi : i < (tvN x).length) t' u' ys (G : cG t t' u u' w ys) => c_rowT (N := N) (X := X) G.c (G.up hx) c2 hi
  generalize tvN x = q at *
  have E1 : cf_105 N X vx (Int32.ofNat q.length) (Int32.ofNat j) t = cf_105_L2 N X N 0 vx (Int32.ofNat q.length) (Int32.ofNat j) (Int32.ofNat w) (Int32.ofNat 0) t := by
    unfold cf_105 cf_105_0 cf_105_7
    simp (disch := omega) only [ev_S, ev_C, ↓reduceIte, Nat.reduceEqDiff, Nat.reduceLeDiff, Nat.reduceAdd, Nat.reduceMul, Nat.reduceSub, reduceCtorEq, l32_0, l32_1, l32_2, l32_3, l32_4, l32_5, l32_6, l32_7, l32_8, l32_9, l32_10, l32_11, l32_12, l32_13, l32_14, l32_15, l32_16, l32_17, l32_18, l32_19, l32_20, l32_21, l32_22, l32_23, l32_24, l32_25, l32_26, l32_27, l32_28, l32_29, l32_33, l32_40, l32_41, l32_44, l32_45, l32_59, l32_61, l32_91, l32_93, l32_123, l32_125, ga]
  rw [E1]
  refine lp (fun F i (t' : cS) => cf_105_L2 N X F 0 vx (Int32.ofNat q.length) (Int32.ofNat j) (Int32.ofNat w) (Int32.ofNat i) t') q.length (fun i t' => cG t t' u u w ((col (q.take i) j).map nZ)) (fun R => ∃ t2 v2, R = some (t2, .inl (some (.long v2))) ∧ cG t t2 u (u + 1 + (col q j).length) w [] ∧ cN (cel t2) (u + 1 + (col q j).length) v2 (nR (col q j))) ?_ ?_ q.length 0 N t (Nat.zero_add _) (by omega) (cG.nil hh)
  · intro F i t1 hi G _
    left
    have n1 : ¬ q.length ≤ i := by omega
    obtain ⟨v1, d1, d2⟩ := PT i hi t1 _ _ G
    have z1 := c_sizeN (N := N) (X := X) G.c d2
    have z1 : cf_128 N X v1 t1 = some (t1, .inl (some (.int (Int32.ofNat q[i].length)))) := z1
    have hq6 := tw.2.2 _ (List.getElem_mem hi)
    have hcl : (col (q.take i) j).length ≤ i := Nat.le_trans col_len (by rw [List.length_take]; omega)
    by_cases e : j < q[i].length
    · have pa := c_partR (N := N) (X := X) G.c (cN_iff.mp d2) e
      obtain ⟨t2, p1, p2⟩ := cG.put (N := N) (X := X) G (by rw [List.length_map]; omega) (cN_Z (z := q[i][j]))
      have p1 : cf_123 N X (tg (Int32.ofNat 0) q[i][j]) t1 = _ := p1
      refine ⟨t2, ?_, ?_⟩
      · rw [col_s hi, if_pos e, List.map_append, getD_e e]
        exact p2
      · show cf_105_12 N X (cf_105_L2 N X F) vx (Int32.ofNat q.length) (Int32.ofNat j) (Int32.ofNat w) (Int32.ofNat i) t1 = _
        have e' : ¬ q[i].length ≤ j := by omega
        unfold cf_105_12 cf_105_18 cf_105_28 cf_105_41 cf_105_44 cf_105_59 cf_105_62
        simp (disch := omega) only [ev_S, ev_C, ↓reduceIte, Nat.reduceEqDiff, Nat.reduceLeDiff, Nat.reduceAdd, Nat.reduceMul, Nat.reduceSub, reduceCtorEq, l32_0, l32_1, l32_2, l32_3, l32_4, l32_5, l32_6, l32_7, l32_8, l32_9, l32_10, l32_11, l32_12, l32_13, l32_14, l32_15, l32_16, l32_17, l32_18, l32_19, l32_20, l32_21, l32_22, l32_23, l32_24, l32_25, l32_26, l32_27, l32_28, l32_29, l32_33, l32_40, l32_41, l32_44, l32_45, l32_59, l32_61, l32_91, l32_93, l32_123, l32_125, n1, d1, z1, e', pa, p1]
    · refine ⟨t1, ?_, ?_⟩
      · rw [col_s hi, if_neg e, List.append_nil]
        exact G
      · show cf_105_12 N X (cf_105_L2 N X F) vx (Int32.ofNat q.length) (Int32.ofNat j) (Int32.ofNat w) (Int32.ofNat i) t1 = _
        have e' : q[i].length ≤ j := by omega
        unfold cf_105_12 cf_105_18 cf_105_28 cf_105_41 cf_105_62
        simp (disch := omega) only [ev_S, ev_C, ↓reduceIte, Nat.reduceEqDiff, Nat.reduceLeDiff, Nat.reduceAdd, Nat.reduceMul, Nat.reduceSub, reduceCtorEq, l32_0, l32_1, l32_2, l32_3, l32_4, l32_5, l32_6, l32_7, l32_8, l32_9, l32_10, l32_11, l32_12, l32_13, l32_14, l32_15, l32_16, l32_17, l32_18, l32_19, l32_20, l32_21, l32_22, l32_23, l32_24, l32_25, l32_26, l32_27, l32_28, l32_29, l32_33, l32_40, l32_41, l32_44, l32_45, l32_59, l32_61, l32_91, l32_93, l32_123, l32_125, n1, d1, z1, e']
  · intro F t1 G
    rw [List.take_length] at G
    have hcl : (col q j).length ≤ q.length := col_len
    obtain ⟨t2, v2, b1, b2, b3⟩ := cG.mkRow (N := N) (X := X) hN G (by omega) (by omega) (by omega)
    refine ⟨t2, v2, ?_, b2, b3⟩
    show cf_105_12 N X (cf_105_L2 N X F) vx (Int32.ofNat q.length) (Int32.ofNat j) (Int32.ofNat w) (Int32.ofNat q.length) t1 = _
    unfold cf_105_12 cf_105_68 cf_105_78
    simp (disch := omega) only [ev_S, ev_C, ↓reduceIte, Nat.reduceEqDiff, Nat.reduceLeDiff, Nat.reduceAdd, Nat.reduceMul, Nat.reduceSub, reduceCtorEq, l32_0, l32_1, l32_2, l32_3, l32_4, l32_5, l32_6, l32_7, l32_8, l32_9, l32_10, l32_11, l32_12, l32_13, l32_14, l32_15, l32_16, l32_17, l32_18, l32_19, l32_20, l32_21, l32_22, l32_23, l32_24, l32_25, l32_26, l32_27, l32_28, l32_29, l32_33, l32_40, l32_41, l32_44, l32_45, l32_59, l32_61, l32_91, l32_93, l32_123, l32_125, b1]
theorem c_trn (hN : 170000 ≤ N) (hh : cHp t u w) (hx : cN (cel t) u vx x) (wx : wfN x) (hu : u ≤ 162000) (hw : w ≤ 1000) : ∃ t' v, cf_104 N X vx t = some (t', .inl (some (.long v))) ∧ cE t t' u v (if kn x = 2 then ansTr (tvN x) else .inl 3) := by
  have kx := c_kn (N := N) (X := X) hx
  have lx := kn_le (x := x)
  by_cases c2 : kn x = 2
  · rw [if_pos c2]
    have zx := c_sizeN (N := N) (X := X) hh hx
    rw [kn2_sz c2] at zx
    have tw := tv_wf c2 wx
    have ga := c_gathered (N := N) (X := X) hh
    rw [c2] at kx
    have CL := fun j (hj : j < 64) t' u' ys (G : cG t t' u u' w ys) (h1 : w + ys.length ≤ 2000) (h2 : u' ≤ 164000) => c_col (N := N) (X := X) (j := j) hN G.c (G.up hx) c2 wx hj h1 h2
    have PT := fun i (hi : i < (tvN x).length) t' u' ys (G : cG t t' u u' w ys) => c_rowT (N := N) (X := X) G.c (G.up hx) c2 hi
    generalize tvN x = q at *
    have hw64 : ∀ i, wid (q.take i) ≤ 64 := fun i => wid_le (fun r hr => tw.2.2 r (List.mem_of_mem_take hr))
    have E1 : cf_104 N X vx t = cf_104_L8 N X N 0 vx (Int32.ofNat q.length) (Int32.ofNat 0) (Int32.ofNat 0) t := by
      unfold cf_104 cf_104_0 cf_104_4 cf_104_13 cf_104_21
      simp (disch := omega) only [ev_S, ev_C, ↓reduceIte, Nat.reduceEqDiff, Nat.reduceLeDiff, Nat.reduceAdd, Nat.reduceMul, Nat.reduceSub, reduceCtorEq, l32_0, l32_1, l32_2, l32_3, l32_4, l32_5, l32_6, l32_7, l32_8, l32_9, l32_10, l32_11, l32_12, l32_13, l32_14, l32_15, l32_16, l32_17, l32_18, l32_19, l32_20, l32_21, l32_22, l32_23, l32_24, l32_25, l32_26, l32_27, l32_28, l32_29, l32_33, l32_40, l32_41, l32_44, l32_45, l32_59, l32_61, l32_91, l32_93, l32_123, l32_125, kx, zx]
    have E2 : cf_104_L8 N X N 0 vx (Int32.ofNat q.length) (Int32.ofNat 0) (Int32.ofNat 0) t = cf_104_64 N X vx (Int32.ofNat q.length) (Int32.ofNat (wid q)) t := by
      refine lp (fun F i (c : Nat) => cf_104_L8 N X F 0 vx (Int32.ofNat q.length) (Int32.ofNat c) (Int32.ofNat i) t) q.length (fun i c => c = wid (q.take i)) (fun R => R = cf_104_64 N X vx (Int32.ofNat q.length) (Int32.ofNat (wid q)) t) ?_ ?_ q.length 0 N 0 (Nat.zero_add _) (by omega) rfl
      · intro F i c hi hP _
        left
        have n1 : ¬ q.length ≤ i := by omega
        obtain ⟨v1, d1, d2⟩ := PT i hi t _ _ (cG.nil hh)
        have z1 := c_sizeN (N := N) (X := X) hh d2
        have z1 : cf_128 N X v1 t = some (t, .inl (some (.int (Int32.ofNat q[i].length)))) := z1
        have hq6 := tw.2.2 _ (List.getElem_mem hi)
        have hc6 := hw64 i
        rw [← hP] at hc6
        have em : (if Int32.ofNat c < Int32.ofNat q[i].length then Int32.ofNat q[i].length else Int32.ofNat c) = Int32.ofNat (Nat.max c q[i].length) := by
          have e := mx_s (g := c) (z := Int32.ofNat q[i].length) (by omega)
          rw [pz_o (by omega)] at e
          exact e
        refine ⟨Nat.max c q[i].length, by rw [wid_s hi, hP], ?_⟩
        have E : cf_104_L8 N X (F + 1) 0 vx (Int32.ofNat q.length) (Int32.ofNat c) (Int32.ofNat i) t = cf_104_53 N X (cf_104_L8 N X F) vx (Int32.ofNat q.length) (Int32.ofNat i) (Int32.ofNat c) (Int32.ofNat q[i].length) t := by
          show cf_104_28 N X (cf_104_L8 N X F) vx (Int32.ofNat q.length) (Int32.ofNat c) (Int32.ofNat i) t = _
          unfold cf_104_28 cf_104_34 cf_104_50
          simp (disch := omega) only [ev_S, ev_C, ↓reduceIte, Nat.reduceEqDiff, Nat.reduceLeDiff, Nat.reduceAdd, Nat.reduceMul, Nat.reduceSub, reduceCtorEq, l32_0, l32_1, l32_2, l32_3, l32_4, l32_5, l32_6, l32_7, l32_8, l32_9, l32_10, l32_11, l32_12, l32_13, l32_14, l32_15, l32_16, l32_17, l32_18, l32_19, l32_20, l32_21, l32_22, l32_23, l32_24, l32_25, l32_26, l32_27, l32_28, l32_29, l32_33, l32_40, l32_41, l32_44, l32_45, l32_59, l32_61, l32_91, l32_93, l32_123, l32_125, n1, d1, z1]
        show cf_104_L8 N X (F + 1) 0 _ _ _ _ t = _
        rw [E]
        unfold cf_104_53
        rw [em, show Int32.ofNat i + 1 = Int32.ofNat (i + 1) from i32al]
      · intro F c hP
        rw [List.take_length] at hP
        rw [hP]
        show cf_104_28 N X (cf_104_L8 N X F) vx (Int32.ofNat q.length) (Int32.ofNat (wid q)) (Int32.ofNat q.length) t = _
        generalize wid q = W at *
        unfold cf_104_28
        simp (disch := omega) only [ev_S, ev_C, ↓reduceIte, Nat.reduceEqDiff, Nat.reduceLeDiff, Nat.reduceAdd, Nat.reduceMul, Nat.reduceSub, reduceCtorEq, l32_0, l32_1, l32_2, l32_3, l32_4, l32_5, l32_6, l32_7, l32_8, l32_9, l32_10, l32_11, l32_12, l32_13, l32_14, l32_15, l32_16, l32_17, l32_18, l32_19, l32_20, l32_21, l32_22, l32_23, l32_24, l32_25, l32_26, l32_27, l32_28, l32_29, l32_33, l32_40, l32_41, l32_44, l32_45, l32_59, l32_61, l32_91, l32_93, l32_123, l32_125]
    rw [E1, E2]
    have hW := hw64 q.length
    rw [List.take_length] at hW
    unfold ansTr
    by_cases c : 20 < wid q
    · rw [if_pos c]
      refine ⟨t, _, ?_, cE.tr hh⟩
      have b1 := c_rf (N := N) (X := X) (t := t) (k := Int32.ofNat 2)
      have c' : ¬ wid q ≤ 20 := by omega
      generalize wid q = W at *
      unfold cf_104_64 cf_104_71 cf_104_75
      simp (disch := omega) only [ev_S, ev_C, ↓reduceIte, Nat.reduceEqDiff, Nat.reduceLeDiff, Nat.reduceAdd, Nat.reduceMul, Nat.reduceSub, reduceCtorEq, l32_0, l32_1, l32_2, l32_3, l32_4, l32_5, l32_6, l32_7, l32_8, l32_9, l32_10, l32_11, l32_12, l32_13, l32_14, l32_15, l32_16, l32_17, l32_18, l32_19, l32_20, l32_21, l32_22, l32_23, l32_24, l32_25, l32_26, l32_27, l32_28, l32_29, l32_33, l32_40, l32_41, l32_44, l32_45, l32_59, l32_61, l32_91, l32_93, l32_123, l32_125, c', b1]
    · rw [if_neg c]
      have hcs := col_sum q
      have E3 : cf_104_64 N X vx (Int32.ofNat q.length) (Int32.ofNat (wid q)) t = cf_104_L2 N X N 0 vx (Int32.ofNat q.length) (Int32.ofNat (wid q)) (Int32.ofNat w) (Int32.ofNat 0) t := by
        have c' : wid q ≤ 20 := by omega
        generalize wid q = W at *
        unfold cf_104_64 cf_104_76 cf_104_83
        simp (disch := omega) only [ev_S, ev_C, ↓reduceIte, Nat.reduceEqDiff, Nat.reduceLeDiff, Nat.reduceAdd, Nat.reduceMul, Nat.reduceSub, reduceCtorEq, l32_0, l32_1, l32_2, l32_3, l32_4, l32_5, l32_6, l32_7, l32_8, l32_9, l32_10, l32_11, l32_12, l32_13, l32_14, l32_15, l32_16, l32_17, l32_18, l32_19, l32_20, l32_21, l32_22, l32_23, l32_24, l32_25, l32_26, l32_27, l32_28, l32_29, l32_33, l32_40, l32_41, l32_44, l32_45, l32_59, l32_61, l32_91, l32_93, l32_123, l32_125, c', ga]
      rw [E3]
      refine lp (fun F i (t' : cS) => cf_104_L2 N X F 0 vx (Int32.ofNat q.length) (Int32.ofNat (wid q)) (Int32.ofNat w) (Int32.ofNat i) t') (wid q) (fun i t' => cG t t' u (u + (i + (((List.range i).map (col q)).map List.length).sum)) w (((List.range i).map (col q)).map nR)) (fun R => ∃ t' v, R = some (t', .inl (some (.long v))) ∧ cE t t' u v (ansM 2 (((List.range (wid q)).map (col q)).map nR))) ?_ ?_ (wid q) 0 N t (Nat.zero_add _) (by omega) (cG.nil hh)
      · intro F i t1 hi G _
        left
        have hl0 : ((List.range i).map (col q)).length = i := by rw [List.length_map, List.length_range]
        have hll : (((List.range i).map (col q)).map nR).length = i := by rw [List.length_map, hl0]
        have hsi := Nat.le_trans (hcs i) tw.2.1
        have n1 : ¬ wid q ≤ i := by omega
        obtain ⟨t2, v, r1, r2, r3⟩ := CL i (by omega) t1 _ _ G (by rw [hll]; omega) (by omega)
        obtain ⟨t3, p1, p2⟩ := cG.addRow (N := N) (X := X) G r2 r3 (by rw [hll]; omega)
        refine ⟨t3, ?_, ?_⟩
        · rw [range_map_s, List.map_append, List.map_append, List.sum_append]
          have e : u + (i + 1 + ((((List.range i).map (col q)).map List.length).sum + ([col q i].map List.length).sum)) = u + (i + (((List.range i).map (col q)).map List.length).sum) + 1 + (col q i).length := by
            show u + (i + 1 + (_ + ((col q i).length + 0))) = _
            omega
          rw [e]
          exact p2
        · show cf_104_88 N X (cf_104_L2 N X F) vx (Int32.ofNat q.length) (Int32.ofNat (wid q)) (Int32.ofNat w) (Int32.ofNat i) t1 = _
          generalize wid q = W at *
          unfold cf_104_88 cf_104_95 cf_104_107 cf_104_110
          simp (disch := omega) only [ev_S, ev_C, ↓reduceIte, Nat.reduceEqDiff, Nat.reduceLeDiff, Nat.reduceAdd, Nat.reduceMul, Nat.reduceSub, reduceCtorEq, l32_0, l32_1, l32_2, l32_3, l32_4, l32_5, l32_6, l32_7, l32_8, l32_9, l32_10, l32_11, l32_12, l32_13, l32_14, l32_15, l32_16, l32_17, l32_18, l32_19, l32_20, l32_21, l32_22, l32_23, l32_24, l32_25, l32_26, l32_27, l32_28, l32_29, l32_33, l32_40, l32_41, l32_44, l32_45, l32_59, l32_61, l32_91, l32_93, l32_123, l32_125, n1, r1, p1]
      · intro F t1 G
        have hlp : ((List.range (wid q)).map (col q)).length = wid q := by rw [List.length_map, List.length_range]
        have hsi := Nat.le_trans (hcs (wid q)) tw.2.1
        obtain ⟨t2, v, b1, b2⟩ := cG.bT (N := N) (X := X) hN G (fun r' hr' => by
          obtain ⟨j, -, rfl⟩ := List.mem_map.mp hr'
          exact Nat.le_trans col_len (by omega)) (by rw [hlp]; omega) (by rw [hlp]; omega) (by omega) (by omega)
        refine ⟨t2, v, ?_, b2⟩
        show cf_104_88 N X (cf_104_L2 N X F) vx (Int32.ofNat q.length) (Int32.ofNat (wid q)) (Int32.ofNat w) (Int32.ofNat (wid q)) t1 = _
        generalize wid q = W at *
        unfold cf_104_88 cf_104_116 cf_104_126
        simp (disch := omega) only [ev_S, ev_C, ↓reduceIte, Nat.reduceEqDiff, Nat.reduceLeDiff, Nat.reduceAdd, Nat.reduceMul, Nat.reduceSub, reduceCtorEq, l32_0, l32_1, l32_2, l32_3, l32_4, l32_5, l32_6, l32_7, l32_8, l32_9, l32_10, l32_11, l32_12, l32_13, l32_14, l32_15, l32_16, l32_17, l32_18, l32_19, l32_20, l32_21, l32_22, l32_23, l32_24, l32_25, l32_26, l32_27, l32_28, l32_29, l32_33, l32_40, l32_41, l32_44, l32_45, l32_59, l32_61, l32_91, l32_93, l32_123, l32_125, b1]
  · rw [if_neg c2]
    refine ⟨t, _, ?_, cE.tr hh⟩
    have b1 := c_rf (N := N) (X := X) (t := t) (k := Int32.ofNat 3)
    generalize kn x = kx' at *
    unfold cf_104 cf_104_0 cf_104_4 cf_104_8 cf_104_12
    simp (disch := omega) only [ev_S, ev_C, ↓reduceIte, Nat.reduceEqDiff, Nat.reduceLeDiff, Nat.reduceAdd, Nat.reduceMul, Nat.reduceSub, reduceCtorEq, l32_0, l32_1, l32_2, l32_3, l32_4, l32_5, l32_6, l32_7, l32_8, l32_9, l32_10, l32_11, l32_12, l32_13, l32_14, l32_15, l32_16, l32_17, l32_18, l32_19, l32_20, l32_21, l32_22, l32_23, l32_24, l32_25, l32_26, l32_27, l32_28, l32_29, l32_33, l32_40, l32_41, l32_44, l32_45, l32_59, l32_61, l32_91, l32_93, l32_123, l32_125, kx, c2, b1]
end TRR
end
-- ### 97b.pure.lean.txt
section
/-! ===== PURE: run (55): group: what it asks ===== -/
def g1 (z : Int32) : Nat := if z < 0 then 0 else pz z + 1
def grW (r : List Int32) : Nat := mxL (r.map g1)
/-- the places of n, up to i -/
def plcT (r : List Int32) (n i : Nat) : List Int32 := (List.range i).flatMap fun j => if r.getD j 0 = Int32.ofNat n then [Int32.ofNat j] else []
abbrev plc (r : List Int32) (n : Nat) : List Int32 := plcT r n r.length
def ansGp (r : List Int32) : Ans := if 20 < grW r then .inl 2 else if (r.any fun z => decide (z < 0)) = true then .inl 1 else ansM 2 (((List.range (grW r)).map (plc r)).map nR)
section GRP
variable {r : List Int32} {n i k : Nat} {z : Int32}
theorem plcT_s : plcT r n (i + 1) = plcT r n i ++ (if r.getD i 0 = Int32.ofNat n then [Int32.ofNat i] else []) := by
  unfold plcT
  rw [List.range_succ, List.flatMap_append, List.flatMap_cons, List.flatMap_nil, List.append_nil]
theorem plcT_len : (plcT r n i).length ≤ i := by
  induction i with
  | zero => exact Nat.le_refl _
  | succ i ih =>
    rw [plcT_s, List.length_append]
    have : (if r.getD i 0 = Int32.ofNat n then [Int32.ofNat i] else ([] : List Int32)).length ≤ 1 := by
      split
      · exact Nat.le_refl _
      · exact Nat.zero_le _
    omega
theorem plc_sum (hk : k ≤ 1000) : ∀ i, (((List.range k).map fun n => plcT r n i).map List.length).sum ≤ i := fun i => by
  have one : ∀ z : Int32, ∀ k, k ≤ 1000 → (((List.range k).map fun n => (if z = Int32.ofNat n then 1 else 0 : Nat)).sum ≤ 1 ∧ ((∀ n, n < k → ¬ z = Int32.ofNat n) → ((List.range k).map fun n => (if z = Int32.ofNat n then 1 else 0 : Nat)).sum = 0)) := fun z k => by
    induction k with
    | zero => intro _; exact ⟨Nat.zero_le _, fun _ => rfl⟩
    | succ k ih =>
      intro hk
      have ih := ih (by omega)
      rw [range_map_s, List.sum_append]
      by_cases c : z = Int32.ofNat k
      · have h0 := ih.2 (fun n hn e => by
          rw [c] at e
          have := ofNat_inj (by omega) (by omega) e
          omega)
        refine ⟨?_, fun h => absurd c (h k (by omega))⟩
        rw [h0, if_pos c]
        exact Nat.le_refl _
      · rw [if_neg c]
        refine ⟨?_, fun h => ?_⟩
        · show _ + (0 + 0) ≤ 1
          exact ih.1
        · show _ + (0 + 0) = 0
          rw [ih.2 (fun n hn => h n (by omega))]
          rfl
  induction i with
  | zero =>
    have : ∀ k, (((List.range k).map fun n => plcT r n 0).map List.length).sum = 0 := fun k => by
      induction k with
      | zero => rfl
      | succ k ih =>
        rw [range_map_s, List.map_append, List.sum_append, ih]
        rfl
    rw [this]
    exact Nat.le_refl _
  | succ i ih =>
    have e : ∀ k, (((List.range k).map fun n => plcT r n (i + 1)).map List.length).sum = (((List.range k).map fun n => plcT r n i).map List.length).sum + ((List.range k).map fun n => (if r.getD i 0 = Int32.ofNat n then 1 else 0 : Nat)).sum := fun k => by
      induction k with
      | zero => rfl
      | succ k ih =>
        rw [range_map_s, List.map_append, List.sum_append, ih, range_map_s, List.map_append, List.sum_append, range_map_s, List.sum_append]
        have el : (plcT r k (i + 1)).length = (plcT r k i).length + if r.getD i 0 = Int32.ofNat k then 1 else 0 := by
          rw [plcT_s, List.length_append]
          congr 1
          split <;> rfl
        show _ + ((plcT r k (i + 1)).length + 0) = _ + ((plcT r k i).length + 0) + (_ + ((if r.getD i 0 = Int32.ofNat k then 1 else 0) + 0))
        rw [el]
        omega
    rw [e]
    have := (one (r.getD i 0) k hk).1
    omega
theorem grW_s (hi : i < r.length) : grW (r.take (i + 1)) = Nat.max (grW (r.take i)) (g1 r[i]) := by
  unfold grW
  rw [take_map_s hi, mxa]
theorem g1_n (h : z < 0) : g1 z = 0 := if_pos h
theorem g1_o {p : Nat} (hp : p < 2147483648) : g1 (Int32.ofNat p) = p + 1 := by
  unfold g1
  rw [if_neg (i32n hp), pz_o hp]
theorem grW_le : grW r ≤ 2147483648 := mxL_le.mpr (fun y hy => by
  obtain ⟨z, hz, rfl⟩ := List.mem_map.mp hy
  by_cases c : z < 0
  · rw [g1_n c]
    omega
  · obtain ⟨p, hp, rfl⟩ := i32nn c
    rw [g1_o hp]
    omega)
/-- the class's greatest, from -1 on -/
def gI (k : Nat) : Int32 := if k = 0 then -Int32.ofNat 1 else Int32.ofNat (k - 1)
theorem gI_s (hk : k ≤ 2147483648) : (if gI k < z then z else gI k) = gI (Nat.max k (g1 z)) := by
  by_cases c : z < 0
  · have h : ¬ gI k < z := by
      unfold gI
      by_cases d : k = 0
      · rw [if_pos d]
        intro q
        rw [Int32.lt_iff_toInt_lt] at q
        have := i32m c
        have e : (-Int32.ofNat 1).toInt = -1 := by decide
        omega
      · rw [if_neg d]
        exact (i32neg c (k := k - 1) (by omega)).2.2.2
    rw [if_neg h, g1_n c]
    congr 1
    exact (Nat.max_eq_left (Nat.zero_le _)).symm
  · obtain ⟨p, hp, rfl⟩ := i32nn c
    rw [g1_o hp]
    by_cases d : k = 0
    · subst d
      have h : gI 0 < Int32.ofNat p := by
        show -Int32.ofNat 1 < Int32.ofNat p
        have := ev_n1 (a := p) hp
        rw [this]
        trivial
      rw [if_pos h, show Nat.max 0 (p + 1) = p + 1 from Nat.max_eq_right (Nat.zero_le _)]
      rfl
    · have e : gI k = Int32.ofNat (k - 1) := if_neg d
      rw [e]
      by_cases g : k - 1 < p
      · rw [if_pos ((i32lt (by omega) hp).mpr g), show Nat.max k (p + 1) = p + 1 from Nat.max_eq_right (by omega)]
        rfl
      · rw [if_neg (fun q => g ((i32lt (by omega) hp).mp q)), show Nat.max k (p + 1) = k from Nat.max_eq_left (by omega), e]
theorem gI_20 (hk : k ≤ 2147483648) : (gI k < Int32.ofNat 20) ↔ k ≤ 20 := by
  unfold gI
  by_cases d : k = 0
  · rw [if_pos d]
    exact ⟨fun _ => by omega, fun _ => by decide⟩
  · rw [if_neg d, i32lt (by omega) (by omega)]
    omega
theorem gI_lt {j : Nat} (hk : k ≤ 20) (hj : j ≤ 20) : (gI k < Int32.ofNat j) ↔ k ≤ j := by
  unfold gI
  by_cases d : k = 0
  · rw [if_pos d]
    refine ⟨fun _ => by omega, fun _ => ?_⟩
    have := ev_n1 (a := j) (by omega)
    rw [this]
    trivial
  · rw [if_neg d, i32lt (by omega) (by omega)]
    omega
theorem min21 {W p : Nat} (hp : ¬ 19 < p) : Nat.max (Nat.min W 21) (p + 1) = Nat.min (Nat.max W (p + 1)) 21 := by
  show max (min W 21) (p + 1) = min (max W (p + 1)) 21
  omega
end GRP
end
-- ### 97c.pure.lean.txt
section
/-! ===== PURE: run (56): group, both ===== -/
section GRR
variable {N : Nat} {X : Nat → Option zz_C} {s s' : mS} {t t' : cS} {n f f' m a i j u w : Nat} {x : Nod} {xs ys : List Nod} {vx v : Int64} {r : List Int32}
theorem r_grp (hN : 170000 ≤ N) (H : rA s n f m ys) (La : LayN (s.2.2.1 47) (Rf f) a (nR r)) (hr : r.length ≤ 64) : ∃ s', mf_335 N (Int32.ofNat 18) (Int32.ofNat a) (Int32.ofNat n) s = some (s', none) ∧ rE s s' n f m (ansGp r) := by
  have H' := H
  obtain ⟨-, H2, H3, H4, H5, H6, H7, H8, H9, H10⟩ := H'
  have G0 : rG s (mI s 51 (Int32.ofNat n)) n f f [] := rG.nil H2
  obtain ⟨s1, hs1⟩ : ∃ s1, s1 = mI s 51 (Int32.ofNat n) := ⟨_, rfl⟩
  rw [← hs1] at G0
  have T := fun k => rG.trb (N := N) H G0 (by omega) k
  have kd : s.2.2.1 47 a = Int32.ofNat 1 := (LayN_iff.mp La).2.kd.1
  have hla := rowlt La
  have SZ : ∀ s2 fx xs, rG s s2 n f fx xs → mf_77 N (Int32.ofNat a) s2 = some (s2, some (.int (Int32.ofNat r.length))) := fun s2 fx xs G => rG.size (N := N) G La (by omega)
  have E1 : mf_335 N (Int32.ofNat 18) (Int32.ofNat a) (Int32.ofNat n) s = mf_335_L11 N N 0 (Int32.ofNat a) (Int32.ofNat n) (Int32.ofNat 1) (Int32.ofNat 0) (Int32.ofNat 0) (Int32.ofNat 0) s1 := by
    rw [hs1]
    unfold mf_335 mf_335_0 mf_335_230 mf_335_279
    simp (disch := omega) only [ev_S, ev_P, ↓reduceIte, Nat.reduceEqDiff, Nat.reduceLeDiff, Nat.reduceAdd, Nat.reduceMul, Nat.reduceSub, reduceCtorEq, l32_0, l32_1, l32_2, l32_3, l32_4, l32_5, l32_6, l32_7, l32_8, l32_9, l32_10, l32_11, l32_12, l32_13, l32_14, l32_15, l32_16, l32_17, l32_18, l32_19, l32_20, l32_21, l32_22, l32_23, l32_24, l32_25, l32_26, l32_27, l32_28, l32_29, l32_33, l32_40, l32_41, l32_44, l32_45, l32_59, l32_61, l32_91, l32_93, l32_123, l32_125, kd]
  have E2 : ∃ l0, lst0 l0 (r.any fun z => decide (z < 0)) ∧ mf_335_L11 N N 0 (Int32.ofNat a) (Int32.ofNat n) (Int32.ofNat 1) (Int32.ofNat 0) (Int32.ofNat 0) (Int32.ofNat 0) s1 = mf_335_357 N (Int32.ofNat a) (Int32.ofNat n) (Int32.ofNat 1) (Int32.ofNat (Nat.min (grW r) 21)) l0 s1 := by
    refine lp (fun F i (c : Nat × Int32) => mf_335_L11 N F 0 (Int32.ofNat a) (Int32.ofNat n) (Int32.ofNat 1) (Int32.ofNat c.1) c.2 (Int32.ofNat i) s1) r.length (fun i c => c.1 = Nat.min (grW (r.take i)) 21 ∧ lst0 c.2 ((r.take i).any fun z => decide (z < 0))) (fun R => ∃ l0, lst0 l0 (r.any fun z => decide (z < 0)) ∧ R = mf_335_357 N (Int32.ofNat a) (Int32.ofNat n) (Int32.ofNat 1) (Int32.ofNat (Nat.min (grW r) 21)) l0 s1) ?_ ?_ r.length 0 N (0, Int32.ofNat 0) (Nat.zero_add _) (by omega) ⟨rfl, ⟨⟨fun q => absurd q (show ¬ Int32.ofNat 0 < 0 by decide), fun q => (by cases q)⟩, fun _ => rfl⟩⟩
    · intro F i c hi hP _
      left
      obtain ⟨c0, l0⟩ := c
      obtain ⟨P1, P2⟩ := hP
      have P1 : c0 = _ := P1
      have zz := SZ s1 _ _ G0
      have n1 : ¬ r.length ≤ i := by omega
      have cc := G0.cell La hi
      have hc21 : c0 ≤ 21 := by rw [P1]; exact Nat.min_le_right _ _
      have tail : ∀ w0 : Nat, mf_335_335 N (mf_335_L11 N F) (Int32.ofNat a) (Int32.ofNat n) (Int32.ofNat 1) (Int32.ofNat w0) l0 (Int32.ofNat i) r[i] s1 = mf_335_L11 N F 0 (Int32.ofNat a) (Int32.ofNat n) (Int32.ofNat 1) (Int32.ofNat w0) (if r[i] < l0 then r[i] else l0) (Int32.ofNat (i + 1)) s1 := fun w0 => by
        unfold mf_335_335
        by_cases c : r[i] < l0
        · rw [if_pos c, if_neg (Int32.not_le.mpr c)]
          unfold mf_335_342 mf_335_349
          simp (disch := omega) only [ev_S, ev_P, ↓reduceIte, Nat.reduceEqDiff, Nat.reduceLeDiff, Nat.reduceAdd, Nat.reduceMul, Nat.reduceSub, reduceCtorEq, l32_0, l32_1, l32_2, l32_3, l32_4, l32_5, l32_6, l32_7, l32_8, l32_9, l32_10, l32_11, l32_12, l32_13, l32_14, l32_15, l32_16, l32_17, l32_18, l32_19, l32_20, l32_21, l32_22, l32_23, l32_24, l32_25, l32_26, l32_27, l32_28, l32_29, l32_33, l32_40, l32_41, l32_44, l32_45, l32_59, l32_61, l32_91, l32_93, l32_123, l32_125]
        · rw [if_neg c, if_pos (Int32.not_lt.mp c)]
          unfold mf_335_347 mf_335_349
          simp (disch := omega) only [ev_S, ev_P, ↓reduceIte, Nat.reduceEqDiff, Nat.reduceLeDiff, Nat.reduceAdd, Nat.reduceMul, Nat.reduceSub, reduceCtorEq, l32_0, l32_1, l32_2, l32_3, l32_4, l32_5, l32_6, l32_7, l32_8, l32_9, l32_10, l32_11, l32_12, l32_13, l32_14, l32_15, l32_16, l32_17, l32_18, l32_19, l32_20, l32_21, l32_22, l32_23, l32_24, l32_25, l32_26, l32_27, l32_28, l32_29, l32_33, l32_40, l32_41, l32_44, l32_45, l32_59, l32_61, l32_91, l32_93, l32_123, l32_125]
      have key : ∃ w0, w0 = Nat.min (Nat.max (grW (r.take i)) (g1 r[i])) 21 ∧ mf_335_L11 N (F + 1) 0 (Int32.ofNat a) (Int32.ofNat n) (Int32.ofNat 1) (Int32.ofNat c0) l0 (Int32.ofNat i) s1 = mf_335_335 N (mf_335_L11 N F) (Int32.ofNat a) (Int32.ofNat n) (Int32.ofNat 1) (Int32.ofNat w0) l0 (Int32.ofNat i) r[i] s1 := by
        show ∃ w0, _ ∧ mf_335_282 N (mf_335_L11 N F) (Int32.ofNat a) (Int32.ofNat n) (Int32.ofNat 1) (Int32.ofNat c0) l0 (Int32.ofNat i) s1 = _
        by_cases z0 : r[i] < 0
        · refine ⟨c0, ?_, ?_⟩
          · rw [g1_n z0, P1]
            congr 1
            exact (Nat.max_eq_left (Nat.zero_le _)).symm
          · have y1 := (i32neg z0 (k := 19) (by omega)).2.1
            have y2 : r[i] < Int32.ofNat 0 := z0
            unfold mf_335_282 mf_335_289 mf_335_292 mf_335_319
            simp (disch := omega) only [ev_S, ev_P, ↓reduceIte, Nat.reduceEqDiff, Nat.reduceLeDiff, Nat.reduceAdd, Nat.reduceMul, Nat.reduceSub, reduceCtorEq, l32_0, l32_1, l32_2, l32_3, l32_4, l32_5, l32_6, l32_7, l32_8, l32_9, l32_10, l32_11, l32_12, l32_13, l32_14, l32_15, l32_16, l32_17, l32_18, l32_19, l32_20, l32_21, l32_22, l32_23, l32_24, l32_25, l32_26, l32_27, l32_28, l32_29, l32_33, l32_40, l32_41, l32_44, l32_45, l32_59, l32_61, l32_91, l32_93, l32_123, l32_125, zz, n1, cc, y1, y2]
        · obtain ⟨p, hp, ep⟩ := i32nn z0
          rw [ep] at cc ⊢
          rw [g1_o hp]
          by_cases g : 19 < p
          · refine ⟨21, ?_, ?_⟩
            · show 21 = min (max (grW (r.take i)) (p + 1)) 21
              omega
            · have g' : ¬ p ≤ 19 := by omega
              unfold mf_335_282 mf_335_289 mf_335_292 mf_335_312
              simp (disch := omega) only [ev_S, ev_P, ↓reduceIte, Nat.reduceEqDiff, Nat.reduceLeDiff, Nat.reduceAdd, Nat.reduceMul, Nat.reduceSub, reduceCtorEq, l32_0, l32_1, l32_2, l32_3, l32_4, l32_5, l32_6, l32_7, l32_8, l32_9, l32_10, l32_11, l32_12, l32_13, l32_14, l32_15, l32_16, l32_17, l32_18, l32_19, l32_20, l32_21, l32_22, l32_23, l32_24, l32_25, l32_26, l32_27, l32_28, l32_29, l32_33, l32_40, l32_41, l32_44, l32_45, l32_59, l32_61, l32_91, l32_93, l32_123, l32_125, zz, n1, cc, g', show (21 : Int32) = Int32.ofNat 21 from rfl]
          · refine ⟨Nat.max c0 (p + 1), ?_, ?_⟩
            · rw [P1]
              exact min21 g
            · have g' : p ≤ 19 := by omega
              have mm := r_most (N := N) (s := s1) (p := c0) (q := p + 1) (by omega) (by omega)
              unfold mf_335_282 mf_335_289 mf_335_292 mf_335_319 mf_335_324 mf_335_333
              simp (disch := omega) only [ev_S, ev_P, ↓reduceIte, Nat.reduceEqDiff, Nat.reduceLeDiff, Nat.reduceAdd, Nat.reduceMul, Nat.reduceSub, reduceCtorEq, l32_0, l32_1, l32_2, l32_3, l32_4, l32_5, l32_6, l32_7, l32_8, l32_9, l32_10, l32_11, l32_12, l32_13, l32_14, l32_15, l32_16, l32_17, l32_18, l32_19, l32_20, l32_21, l32_22, l32_23, l32_24, l32_25, l32_26, l32_27, l32_28, l32_29, l32_33, l32_40, l32_41, l32_44, l32_45, l32_59, l32_61, l32_91, l32_93, l32_123, l32_125, zz, n1, cc, g', mm]
      obtain ⟨w0, k1, k2⟩ := key
      refine ⟨(w0, if r[i] < l0 then r[i] else l0), ⟨?_, ?_⟩, ?_⟩
      · show w0 = _
        rw [grW_s hi, k1]
      · rw [take_any hi]
        exact lst0_s P2
      · show mf_335_L11 N (F + 1) 0 (Int32.ofNat a) (Int32.ofNat n) (Int32.ofNat 1) (Int32.ofNat c0) l0 (Int32.ofNat i) s1 = _
        rw [k2, tail]
    · intro F c hP
      obtain ⟨c0, l0⟩ := c
      obtain ⟨P1, P2⟩ := hP
      rw [List.take_length] at P1 P2
      have P1 : c0 = _ := P1
      refine ⟨l0, P2, ?_⟩
      rw [← P1]
      have zz := SZ s1 _ _ G0
      show mf_335_282 N (mf_335_L11 N F) (Int32.ofNat a) (Int32.ofNat n) (Int32.ofNat 1) (Int32.ofNat c0) l0 (Int32.ofNat r.length) s1 = _
      unfold mf_335_282 mf_335_289
      simp (disch := omega) only [ev_S, ev_P, ↓reduceIte, Nat.reduceEqDiff, Nat.reduceLeDiff, Nat.reduceAdd, Nat.reduceMul, Nat.reduceSub, reduceCtorEq, l32_0, l32_1, l32_2, l32_3, l32_4, l32_5, l32_6, l32_7, l32_8, l32_9, l32_10, l32_11, l32_12, l32_13, l32_14, l32_15, l32_16, l32_17, l32_18, l32_19, l32_20, l32_21, l32_22, l32_23, l32_24, l32_25, l32_26, l32_27, l32_28, l32_29, l32_33, l32_40, l32_41, l32_44, l32_45, l32_59, l32_61, l32_91, l32_93, l32_123, l32_125, zz]
  obtain ⟨l0, hl0, E2⟩ := E2
  rw [E1, E2]
  unfold ansGp
  by_cases c : 20 < grW r
  · rw [if_pos c, show Nat.min (grW r) 21 = 21 from Nat.min_eq_right (by omega)]
    obtain ⟨b1, b2⟩ := T 2
    refine ⟨_, ?_, b2⟩
    unfold mf_335_357 mf_335_369 mf_335_377 mf_335_382 mf_335_389
    simp (disch := omega) only [ev_S, ev_P, ↓reduceIte, Nat.reduceEqDiff, Nat.reduceLeDiff, Nat.reduceAdd, Nat.reduceMul, Nat.reduceSub, reduceCtorEq, l32_0, l32_1, l32_2, l32_3, l32_4, l32_5, l32_6, l32_7, l32_8, l32_9, l32_10, l32_11, l32_12, l32_13, l32_14, l32_15, l32_16, l32_17, l32_18, l32_19, l32_20, l32_21, l32_22, l32_23, l32_24, l32_25, l32_26, l32_27, l32_28, l32_29, l32_33, l32_40, l32_41, l32_44, l32_45, l32_59, l32_61, l32_91, l32_93, l32_123, l32_125, b1]
  · rw [if_neg c, show Nat.min (grW r) 21 = grW r from Nat.min_eq_left (by omega)]
    have E3 : mf_335_357 N (Int32.ofNat a) (Int32.ofNat n) (Int32.ofNat 1) (Int32.ofNat (grW r)) l0 s1 = mf_335_364 N (Int32.ofNat a) (Int32.ofNat n) (Int32.ofNat 1) (Int32.ofNat (grW r)) l0 s1 := by
      generalize grW r = W at *
      unfold mf_335_357
      simp (disch := omega) only [ev_S, ev_P, ↓reduceIte, Nat.reduceEqDiff, Nat.reduceLeDiff, Nat.reduceAdd, Nat.reduceMul, Nat.reduceSub, reduceCtorEq, l32_0, l32_1, l32_2, l32_3, l32_4, l32_5, l32_6, l32_7, l32_8, l32_9, l32_10, l32_11, l32_12, l32_13, l32_14, l32_15, l32_16, l32_17, l32_18, l32_19, l32_20, l32_21, l32_22, l32_23, l32_24, l32_25, l32_26, l32_27, l32_28, l32_29, l32_33, l32_40, l32_41, l32_44, l32_45, l32_59, l32_61, l32_91, l32_93, l32_123, l32_125, c]
    rw [E3]
    unfold mf_335_364
    by_cases d : l0 < 0
    · rw [if_pos (hl0.1.mp d), if_neg (Int32.not_le.mpr d)]
      obtain ⟨b1, b2⟩ := T 1
      refine ⟨_, ?_, b2⟩
      have c' : grW r ≤ 20 := by omega
      generalize grW r = W at *
      unfold mf_335_369 mf_335_381 mf_335_382 mf_335_389
      simp (disch := omega) only [ev_S, ev_P, ↓reduceIte, Nat.reduceEqDiff, Nat.reduceLeDiff, Nat.reduceAdd, Nat.reduceMul, Nat.reduceSub, reduceCtorEq, l32_0, l32_1, l32_2, l32_3, l32_4, l32_5, l32_6, l32_7, l32_8, l32_9, l32_10, l32_11, l32_12, l32_13, l32_14, l32_15, l32_16, l32_17, l32_18, l32_19, l32_20, l32_21, l32_22, l32_23, l32_24, l32_25, l32_26, l32_27, l32_28, l32_29, l32_33, l32_40, l32_41, l32_44, l32_45, l32_59, l32_61, l32_91, l32_93, l32_123, l32_125, c', b1]
    · rw [if_neg (fun z => d (hl0.1.mpr z)), if_pos (Int32.not_lt.mp d)]
      have hcs := fun k (hk : k ≤ 1000) => plc_sum (r := r) hk r.length
      refine lpo (fun F i (s' : mS) => mf_335_L7 N F 0 (Int32.ofNat a) (Int32.ofNat n) (Int32.ofNat 1) (Int32.ofNat (grW r)) (Int32.ofNat i) (Int32.ofNat 0) (Int32.ofNat 0) s') (grW r) 67 (fun i s' => rG s s' n f (f + (2 * ((List.range i).map (plc r)).length + (((List.range i).map (plc r)).map List.length).sum)) (((List.range i).map (plc r)).map nR)) (fun R => ∃ s', R = some (s', none) ∧ rE s s' n f m (ansM 2 (((List.range (grW r)).map (plc r)).map nR))) ?_ ?_ (grW r) 0 N s1 (Nat.zero_add _) (by omega) G0
      · intro F i s2 hi G
        left
        have hl0' : ((List.range i).map (plc r)).length = i := by rw [List.length_map, List.length_range]
        have hll : (((List.range i).map (plc r)).map nR).length = i := by rw [List.length_map, hl0']
        have hsi := hcs i (by omega)
        have hsi : (((List.range i).map (plc r)).map List.length).sum ≤ r.length := hsi
        have n1 : ¬ grW r ≤ i := by omega
        have sp := G.1.1
        rw [hll] at sp
        have E4 : mf_335_L7 N (F + 67) 0 (Int32.ofNat a) (Int32.ofNat n) (Int32.ofNat 1) (Int32.ofNat (grW r)) (Int32.ofNat i) (Int32.ofNat 0) (Int32.ofNat 0) s2 = mf_335_L7 N (F + 66) 1 (Int32.ofNat a) (Int32.ofNat n) (Int32.ofNat 1) (Int32.ofNat (grW r)) (Int32.ofNat i) (Int32.ofNat (n + i)) (Int32.ofNat 0) s2 := by
          show mf_335_393 N (mf_335_L7 N (F + 66)) (Int32.ofNat a) (Int32.ofNat n) (Int32.ofNat 1) (Int32.ofNat (grW r)) (Int32.ofNat i) s2 = _
          generalize grW r = W at *
          unfold mf_335_393 mf_335_400
          simp (disch := omega) only [ev_S, ev_P, ↓reduceIte, Nat.reduceEqDiff, Nat.reduceLeDiff, Nat.reduceAdd, Nat.reduceMul, Nat.reduceSub, reduceCtorEq, l32_0, l32_1, l32_2, l32_3, l32_4, l32_5, l32_6, l32_7, l32_8, l32_9, l32_10, l32_11, l32_12, l32_13, l32_14, l32_15, l32_16, l32_17, l32_18, l32_19, l32_20, l32_21, l32_22, l32_23, l32_24, l32_25, l32_26, l32_27, l32_28, l32_29, l32_33, l32_40, l32_41, l32_44, l32_45, l32_59, l32_61, l32_91, l32_93, l32_123, l32_125, n1, sp]
        rw [E4]
        rcases lpi (fun F j (s' : mS) => mf_335_L7 N F 1 (Int32.ofNat a) (Int32.ofNat n) (Int32.ofNat 1) (Int32.ofNat (grW r)) (Int32.ofNat i) (Int32.ofNat (n + i)) (Int32.ofNat j) s') r.length (fun j s' => rG s s' n f (f + (2 * ((List.range i).map (plc r)).length + (((List.range i).map (plc r)).map List.length).sum)) (((List.range i).map (plc r)).map nR ++ (plcT r i j).map nZ)) (fun _ => False) (by
          intro F j s3 hj G3
          left
          have zz := SZ s3 _ _ G3
          have n2 : ¬ r.length ≤ j := by omega
          have cc := G3.cell La hj
          have hcl := plcT_len (r := r) (n := i) (i := j)
          have eg := getD_e (d := 0) hj
          by_cases e : r[j] = Int32.ofNat i
          · obtain ⟨s4, p1, p2⟩ := rG.pushZ (N := N) G3 (by rw [List.length_append, hll, List.length_map]; omega) (Int32.ofNat j)
            refine ⟨s4, ?_, ?_⟩
            · rw [plcT_s, eg, if_pos e, List.map_append, ← List.append_assoc]
              exact p2
            · show mf_335_409 N (mf_335_L7 N F) (Int32.ofNat a) (Int32.ofNat n) (Int32.ofNat 1) (Int32.ofNat (grW r)) (Int32.ofNat i) (Int32.ofNat (n + i)) (Int32.ofNat j) s3 = _
              rw [e] at cc
              generalize grW r = W at *
              unfold mf_335_409 mf_335_416 mf_335_419 mf_335_425 mf_335_441 mf_335_448 mf_335_483
              simp (disch := omega) only [ev_S, ev_P, ↓reduceIte, Nat.reduceEqDiff, Nat.reduceLeDiff, Nat.reduceAdd, Nat.reduceMul, Nat.reduceSub, reduceCtorEq, l32_0, l32_1, l32_2, l32_3, l32_4, l32_5, l32_6, l32_7, l32_8, l32_9, l32_10, l32_11, l32_12, l32_13, l32_14, l32_15, l32_16, l32_17, l32_18, l32_19, l32_20, l32_21, l32_22, l32_23, l32_24, l32_25, l32_26, l32_27, l32_28, l32_29, l32_33, l32_40, l32_41, l32_44, l32_45, l32_59, l32_61, l32_91, l32_93, l32_123, l32_125, zz, n2, cc, p1]
          · refine ⟨s3, ?_, ?_⟩
            · rw [plcT_s, eg, if_neg e, List.append_nil]
              exact G3
            · show mf_335_409 N (mf_335_L7 N F) (Int32.ofNat a) (Int32.ofNat n) (Int32.ofNat 1) (Int32.ofNat (grW r)) (Int32.ofNat i) (Int32.ofNat (n + i)) (Int32.ofNat j) s3 = _
              generalize grW r = W at *
              unfold mf_335_409 mf_335_416 mf_335_419 mf_335_425 mf_335_448 mf_335_483
              simp (disch := omega) only [ev_S, ev_P, ↓reduceIte, Nat.reduceEqDiff, Nat.reduceLeDiff, Nat.reduceAdd, Nat.reduceMul, Nat.reduceSub, reduceCtorEq, l32_0, l32_1, l32_2, l32_3, l32_4, l32_5, l32_6, l32_7, l32_8, l32_9, l32_10, l32_11, l32_12, l32_13, l32_14, l32_15, l32_16, l32_17, l32_18, l32_19, l32_20, l32_21, l32_22, l32_23, l32_24, l32_25, l32_26, l32_27, l32_28, l32_29, l32_33, l32_40, l32_41, l32_44, l32_45, l32_59, l32_61, l32_91, l32_93, l32_123, l32_125, zz, n2, cc, e]) r.length 0 (F + 66 - r.length) s2 (Nat.zero_add _) (by rw [show (plcT r i 0).map nZ = [] from rfl, List.append_nil]; exact G) with ⟨s3, G3, e3⟩ | h
        · rw [show F + 66 - r.length + r.length = F + 66 by omega] at e3
          have zz := SZ s3 _ _ G3
          have hcl := plcT_len (r := r) (n := i) (i := r.length)
          obtain ⟨s4, w1, w2⟩ := rG.row (N := N) hN G3 (by rw [hll]; omega) (by omega)
          rw [hll] at w1
          refine ⟨s4, F + 65 - r.length, ?_, by omega, ?_⟩
          · rw [range_map_s, List.map_append, List.map_append, List.length_append, List.sum_append]
            have e : f + (2 * (((List.range i).map (plc r)).length + [plc r i].length) + ((((List.range i).map (plc r)).map List.length).sum + ([plc r i].map List.length).sum)) = f + (2 * ((List.range i).map (plc r)).length + (((List.range i).map (plc r)).map List.length).sum) + 2 + (plc r i).length := by
              show f + (2 * (_ + 1) + (_ + ((plc r i).length + 0))) = _
              omega
            rw [e]
            exact w2
          · show mf_335_L7 N (F + 66) 1 _ _ _ _ _ _ _ s2 = _
            rw [e3, show F + 66 - r.length = F + 65 - r.length + 1 by omega]
            show mf_335_409 N (mf_335_L7 N (F + 65 - r.length)) (Int32.ofNat a) (Int32.ofNat n) (Int32.ofNat 1) (Int32.ofNat (grW r)) (Int32.ofNat i) (Int32.ofNat (n + i)) (Int32.ofNat r.length) s3 = _
            generalize grW r = W at *
            unfold mf_335_409 mf_335_416 mf_335_489 mf_335_495
            simp (disch := omega) only [ev_S, ev_P, ↓reduceIte, Nat.reduceEqDiff, Nat.reduceLeDiff, Nat.reduceAdd, Nat.reduceMul, Nat.reduceSub, reduceCtorEq, l32_0, l32_1, l32_2, l32_3, l32_4, l32_5, l32_6, l32_7, l32_8, l32_9, l32_10, l32_11, l32_12, l32_13, l32_14, l32_15, l32_16, l32_17, l32_18, l32_19, l32_20, l32_21, l32_22, l32_23, l32_24, l32_25, l32_26, l32_27, l32_28, l32_29, l32_33, l32_40, l32_41, l32_44, l32_45, l32_59, l32_61, l32_91, l32_93, l32_123, l32_125, zz, w1]
        · exact h.elim
      · intro F s2 G
        have hlp : ((List.range (grW r)).map (plc r)).length = grW r := by rw [List.length_map, List.length_range]
        have hsi := hcs (grW r) (by omega)
        have hsi : (((List.range (grW r)).map (plc r)).map List.length).sum ≤ r.length := hsi
        obtain ⟨s3, b1, b2⟩ := rA.bTab (N := N) hN H G (fun r' hr' => by
          obtain ⟨j, -, rfl⟩ := List.mem_map.mp hr'
          exact Nat.le_trans plcT_len hr) (by rw [hlp]; omega) (by rw [hlp]; omega)
        refine ⟨s3, ?_, b2⟩
        show mf_335_393 N (mf_335_L7 N F) (Int32.ofNat a) (Int32.ofNat n) (Int32.ofNat 1) (Int32.ofNat (grW r)) (Int32.ofNat (grW r)) s2 = _
        generalize grW r = W at *
        unfold mf_335_393 mf_335_501 mf_335_507
        simp (disch := omega) only [ev_S, ev_P, ↓reduceIte, Nat.reduceEqDiff, Nat.reduceLeDiff, Nat.reduceAdd, Nat.reduceMul, Nat.reduceSub, reduceCtorEq, l32_0, l32_1, l32_2, l32_3, l32_4, l32_5, l32_6, l32_7, l32_8, l32_9, l32_10, l32_11, l32_12, l32_13, l32_14, l32_15, l32_16, l32_17, l32_18, l32_19, l32_20, l32_21, l32_22, l32_23, l32_24, l32_25, l32_26, l32_27, l32_28, l32_29, l32_33, l32_40, l32_41, l32_44, l32_45, l32_59, l32_61, l32_91, l32_93, l32_123, l32_125, b1]
theorem c_plc (hN : 170000 ≤ N) (hh : cHp t u w) (h : cN (cel t) u v (nR r)) (hr : r.length ≤ 64) (hj : j < 64) (hw : w ≤ 2000) (hu : u ≤ 164000) : ∃ t2 v2, cf_107 N X v (Int32.ofNat r.length) (Int32.ofNat j) t = some (t2, .inl (some (.long v2))) ∧ cG t t2 u (u + 1 + (plc r j).length) w [] ∧ cN (cel t2) (u + 1 + (plc r j).length) v2 (nR (plc r j)) := by
  have ga := c_gathered (N := N) (X := X) hh
  have E1 : cf_107 N X v (Int32.ofNat r.length) (Int32.ofNat j) t = cf_107_L2 N X N 0 v (Int32.ofNat r.length) (Int32.ofNat j) (Int32.ofNat w) (Int32.ofNat 0) t := by
    unfold cf_107 cf_107_0 cf_107_7
    simp (disch := omega) only [ev_S, ev_C, ↓reduceIte, Nat.reduceEqDiff, Nat.reduceLeDiff, Nat.reduceAdd, Nat.reduceMul, Nat.reduceSub, reduceCtorEq, l32_0, l32_1, l32_2, l32_3, l32_4, l32_5, l32_6, l32_7, l32_8, l32_9, l32_10, l32_11, l32_12, l32_13, l32_14, l32_15, l32_16, l32_17, l32_18, l32_19, l32_20, l32_21, l32_22, l32_23, l32_24, l32_25, l32_26, l32_27, l32_28, l32_29, l32_33, l32_40, l32_41, l32_44, l32_45, l32_59, l32_61, l32_91, l32_93, l32_123, l32_125, ga]
  rw [E1]
  refine lp (fun F i (t' : cS) => cf_107_L2 N X F 0 v (Int32.ofNat r.length) (Int32.ofNat j) (Int32.ofNat w) (Int32.ofNat i) t') r.length (fun i t' => cG t t' u u w ((plcT r j i).map nZ)) (fun R => ∃ t2 v2, R = some (t2, .inl (some (.long v2))) ∧ cG t t2 u (u + 1 + (plc r j).length) w [] ∧ cN (cel t2) (u + 1 + (plc r j).length) v2 (nR (plc r j))) ?_ ?_ r.length 0 N t (Nat.zero_add _) (by omega) (cG.nil hh)
  · intro F i t1 hi G _
    left
    have n1 : ¬ r.length ≤ i := by omega
    have ia := c_intAt (N := N) (X := X) G.c (cN_iff.mp (G.up h)) hi
    have hcl := plcT_len (r := r) (n := j) (i := i)
    have eg := getD_e (d := 0) hi
    by_cases e : r[i] = Int32.ofNat j
    · obtain ⟨t2, p1, p2⟩ := cG.put (N := N) (X := X) G (by rw [List.length_map]; omega) (cN_Z (z := Int32.ofNat i))
      have p1 : cf_123 N X (tg (Int32.ofNat 0) (Int32.ofNat i)) t1 = _ := p1
      have th := c_thing (N := N) (X := X) (t := t1) (k := Int32.ofNat 0) (a := Int32.ofNat i)
      refine ⟨t2, ?_, ?_⟩
      · rw [plcT_s, eg, if_pos e, List.map_append]
        exact p2
      · show cf_107_12 N X (cf_107_L2 N X F) v (Int32.ofNat r.length) (Int32.ofNat j) (Int32.ofNat w) (Int32.ofNat i) t1 = _
        rw [e] at ia
        unfold cf_107_12 cf_107_18 cf_107_28 cf_107_33 cf_107_43 cf_107_46
        simp (disch := omega) only [ev_S, ev_C, ↓reduceIte, Nat.reduceEqDiff, Nat.reduceLeDiff, Nat.reduceAdd, Nat.reduceMul, Nat.reduceSub, reduceCtorEq, l32_0, l32_1, l32_2, l32_3, l32_4, l32_5, l32_6, l32_7, l32_8, l32_9, l32_10, l32_11, l32_12, l32_13, l32_14, l32_15, l32_16, l32_17, l32_18, l32_19, l32_20, l32_21, l32_22, l32_23, l32_24, l32_25, l32_26, l32_27, l32_28, l32_29, l32_33, l32_40, l32_41, l32_44, l32_45, l32_59, l32_61, l32_91, l32_93, l32_123, l32_125, n1, ia, th, p1]
    · refine ⟨t1, ?_, ?_⟩
      · rw [plcT_s, eg, if_neg e, List.append_nil]
        exact G
      · show cf_107_12 N X (cf_107_L2 N X F) v (Int32.ofNat r.length) (Int32.ofNat j) (Int32.ofNat w) (Int32.ofNat i) t1 = _
        unfold cf_107_12 cf_107_18 cf_107_28 cf_107_46
        simp (disch := omega) only [ev_S, ev_C, ↓reduceIte, Nat.reduceEqDiff, Nat.reduceLeDiff, Nat.reduceAdd, Nat.reduceMul, Nat.reduceSub, reduceCtorEq, l32_0, l32_1, l32_2, l32_3, l32_4, l32_5, l32_6, l32_7, l32_8, l32_9, l32_10, l32_11, l32_12, l32_13, l32_14, l32_15, l32_16, l32_17, l32_18, l32_19, l32_20, l32_21, l32_22, l32_23, l32_24, l32_25, l32_26, l32_27, l32_28, l32_29, l32_33, l32_40, l32_41, l32_44, l32_45, l32_59, l32_61, l32_91, l32_93, l32_123, l32_125, n1, ia, e]
  · intro F t1 G
    have hcl := plcT_len (r := r) (n := j) (i := r.length)
    obtain ⟨t2, v2, b1, b2, b3⟩ := cG.mkRow (N := N) (X := X) hN G (by omega) (by omega) (by omega)
    refine ⟨t2, v2, ?_, b2, b3⟩
    show cf_107_12 N X (cf_107_L2 N X F) v (Int32.ofNat r.length) (Int32.ofNat j) (Int32.ofNat w) (Int32.ofNat r.length) t1 = _
    unfold cf_107_12 cf_107_52 cf_107_62
    simp (disch := omega) only [ev_S, ev_C, ↓reduceIte, Nat.reduceEqDiff, Nat.reduceLeDiff, Nat.reduceAdd, Nat.reduceMul, Nat.reduceSub, reduceCtorEq, l32_0, l32_1, l32_2, l32_3, l32_4, l32_5, l32_6, l32_7, l32_8, l32_9, l32_10, l32_11, l32_12, l32_13, l32_14, l32_15, l32_16, l32_17, l32_18, l32_19, l32_20, l32_21, l32_22, l32_23, l32_24, l32_25, l32_26, l32_27, l32_28, l32_29, l32_33, l32_40, l32_41, l32_44, l32_45, l32_59, l32_61, l32_91, l32_93, l32_123, l32_125, b1]
theorem c_grp (hN : 170000 ≤ N) (hh : cHp t u w) (hx : cN (cel t) u vx x) (wx : wfN x) (hu : u ≤ 162000) (hw : w ≤ 1000) : ∃ t' v, cf_106 N X vx t = some (t', .inl (some (.long v))) ∧ cE t t' u v (if kn x = 1 then ansGp (rvN x) else .inl 3) := by
  have kx := c_kn (N := N) (X := X) hx
  have lx := kn_le (x := x)
  by_cases c1 : kn x = 1
  · rw [if_pos c1]
    have zx := c_sizeN (N := N) (X := X) hh hx
    rw [kn1_sz c1] at zx
    have hr := rv_wf c1 wx
    have ga := c_gathered (N := N) (X := X) hh
    have hxr : cN (cel t) u vx (nR (rvN x)) := cN_iff.mpr (hx.r c1)
    have hxv := hx.r c1
    rw [c1] at kx
    generalize rvN x = r at *
    have E1 : cf_106 N X vx t = cf_106_L11 N X N 0 vx (Int32.ofNat r.length) (gI 0) (Int32.ofNat 0) (Int32.ofNat 0) t := by
      show _ = cf_106_L11 N X N 0 vx (Int32.ofNat r.length) (-Int32.ofNat 1) (Int32.ofNat 0) (Int32.ofNat 0) t
      unfold cf_106 cf_106_0 cf_106_4 cf_106_13 cf_106_21
      simp (disch := omega) only [ev_S, ev_C, ↓reduceIte, Nat.reduceEqDiff, Nat.reduceLeDiff, Nat.reduceAdd, Nat.reduceMul, Nat.reduceSub, reduceCtorEq, l32_0, l32_1, l32_2, l32_3, l32_4, l32_5, l32_6, l32_7, l32_8, l32_9, l32_10, l32_11, l32_12, l32_13, l32_14, l32_15, l32_16, l32_17, l32_18, l32_19, l32_20, l32_21, l32_22, l32_23, l32_24, l32_25, l32_26, l32_27, l32_28, l32_29, l32_33, l32_40, l32_41, l32_44, l32_45, l32_59, l32_61, l32_91, l32_93, l32_123, l32_125, kx, zx]
    have E2 : ∃ l0, lst0 l0 (r.any fun z => decide (z < 0)) ∧ cf_106_L11 N X N 0 vx (Int32.ofNat r.length) (gI 0) (Int32.ofNat 0) (Int32.ofNat 0) t = cf_106_77 N X vx (Int32.ofNat r.length) (gI (grW r)) l0 t := by
      refine lp (fun F i (c : Nat × Int32) => cf_106_L11 N X F 0 vx (Int32.ofNat r.length) (gI c.1) c.2 (Int32.ofNat i) t) r.length (fun i c => c.1 = grW (r.take i) ∧ lst0 c.2 ((r.take i).any fun z => decide (z < 0))) (fun R => ∃ l0, lst0 l0 (r.any fun z => decide (z < 0)) ∧ R = cf_106_77 N X vx (Int32.ofNat r.length) (gI (grW r)) l0 t) ?_ ?_ r.length 0 N (0, Int32.ofNat 0) (Nat.zero_add _) (by omega) ⟨rfl, ⟨⟨fun q => absurd q (show ¬ Int32.ofNat 0 < 0 by decide), fun q => (by cases q)⟩, fun _ => rfl⟩⟩
      · intro F i c hi hP _
        left
        obtain ⟨c0, l0⟩ := c
        obtain ⟨P1, P2⟩ := hP
        have P1 : c0 = _ := P1
        have n1 : ¬ r.length ≤ i := by omega
        have ia := c_intAt (N := N) (X := X) hh hxv hi
        have hc : c0 ≤ 2147483648 := by rw [P1]; exact grW_le
        have em := gI_s (k := c0) (z := r[i]) hc
        refine ⟨(Nat.max c0 (g1 r[i]), if r[i] < l0 then r[i] else l0), ⟨?_, ?_⟩, ?_⟩
        · show Nat.max c0 (g1 r[i]) = _
          rw [grW_s hi, P1]
        · rw [take_any hi]
          exact lst0_s P2
        · show cf_106_31 N X (cf_106_L11 N X F) vx (Int32.ofNat r.length) (gI c0) l0 (Int32.ofNat i) t = cf_106_L11 N X F 0 vx (Int32.ofNat r.length) (gI (Nat.max c0 (g1 r[i]))) (if r[i] < l0 then r[i] else l0) (Int32.ofNat (i + 1)) t
          generalize gI (Nat.max c0 (g1 r[i])) = gm at *
          generalize gI c0 = g0 at *
          unfold cf_106_31 cf_106_37 cf_106_49 cf_106_66
          simp (disch := omega) only [ev_S, ev_C, ↓reduceIte, Nat.reduceEqDiff, Nat.reduceLeDiff, Nat.reduceAdd, Nat.reduceMul, Nat.reduceSub, reduceCtorEq, l32_0, l32_1, l32_2, l32_3, l32_4, l32_5, l32_6, l32_7, l32_8, l32_9, l32_10, l32_11, l32_12, l32_13, l32_14, l32_15, l32_16, l32_17, l32_18, l32_19, l32_20, l32_21, l32_22, l32_23, l32_24, l32_25, l32_26, l32_27, l32_28, l32_29, l32_33, l32_40, l32_41, l32_44, l32_45, l32_59, l32_61, l32_91, l32_93, l32_123, l32_125, n1, ia]
          rw [em]
      · intro F c hP
        obtain ⟨c0, l0⟩ := c
        obtain ⟨P1, P2⟩ := hP
        rw [List.take_length] at P1 P2
        have P1 : c0 = _ := P1
        refine ⟨l0, P2, ?_⟩
        rw [← P1]
        show cf_106_31 N X (cf_106_L11 N X F) vx (Int32.ofNat r.length) (gI c0) l0 (Int32.ofNat r.length) t = _
        generalize gI c0 = g0
        unfold cf_106_31
        simp (disch := omega) only [ev_S, ev_C, ↓reduceIte, Nat.reduceEqDiff, Nat.reduceLeDiff, Nat.reduceAdd, Nat.reduceMul, Nat.reduceSub, reduceCtorEq, l32_0, l32_1, l32_2, l32_3, l32_4, l32_5, l32_6, l32_7, l32_8, l32_9, l32_10, l32_11, l32_12, l32_13, l32_14, l32_15, l32_16, l32_17, l32_18, l32_19, l32_20, l32_21, l32_22, l32_23, l32_24, l32_25, l32_26, l32_27, l32_28, l32_29, l32_33, l32_40, l32_41, l32_44, l32_45, l32_59, l32_61, l32_91, l32_93, l32_123, l32_125]
    obtain ⟨l0, hl0, E2⟩ := E2
    rw [E1, E2]
    have hW := grW_le (r := r)
    unfold ansGp
    unfold cf_106_77
    by_cases c : 20 < grW r
    · rw [if_pos c, if_neg (show ¬ gI (grW r) < 20 from fun q => absurd ((gI_20 hW).mp q) (by omega))]
      refine ⟨t, _, ?_, cE.tr hh⟩
      have b1 := c_rf (N := N) (X := X) (t := t) (k := Int32.ofNat 2)
      unfold cf_106_84 cf_106_88
      simp (disch := omega) only [ev_S, ev_C, ↓reduceIte, Nat.reduceEqDiff, Nat.reduceLeDiff, Nat.reduceAdd, Nat.reduceMul, Nat.reduceSub, reduceCtorEq, l32_0, l32_1, l32_2, l32_3, l32_4, l32_5, l32_6, l32_7, l32_8, l32_9, l32_10, l32_11, l32_12, l32_13, l32_14, l32_15, l32_16, l32_17, l32_18, l32_19, l32_20, l32_21, l32_22, l32_23, l32_24, l32_25, l32_26, l32_27, l32_28, l32_29, l32_33, l32_40, l32_41, l32_44, l32_45, l32_59, l32_61, l32_91, l32_93, l32_123, l32_125, b1]
    · rw [if_neg c, if_pos (show gI (grW r) < 20 from (gI_20 hW).mpr (by omega))]
      unfold cf_106_89
      by_cases d : l0 < 0
      · rw [if_pos (hl0.1.mp d), if_neg (Int32.not_le.mpr d)]
        refine ⟨t, _, ?_, cE.tr hh⟩
        have b1 := c_rf (N := N) (X := X) (t := t) (k := Int32.ofNat 1)
        unfold cf_106_94 cf_106_98
        simp (disch := omega) only [ev_S, ev_C, ↓reduceIte, Nat.reduceEqDiff, Nat.reduceLeDiff, Nat.reduceAdd, Nat.reduceMul, Nat.reduceSub, reduceCtorEq, l32_0, l32_1, l32_2, l32_3, l32_4, l32_5, l32_6, l32_7, l32_8, l32_9, l32_10, l32_11, l32_12, l32_13, l32_14, l32_15, l32_16, l32_17, l32_18, l32_19, l32_20, l32_21, l32_22, l32_23, l32_24, l32_25, l32_26, l32_27, l32_28, l32_29, l32_33, l32_40, l32_41, l32_44, l32_45, l32_59, l32_61, l32_91, l32_93, l32_123, l32_125, b1]
      · rw [if_neg (fun z => d (hl0.1.mpr z)), if_pos (Int32.not_lt.mp d)]
        have hcs := fun k (hk : k ≤ 1000) => plc_sum (r := r) hk r.length
        have E3 : cf_106_99 N X vx (Int32.ofNat r.length) (gI (grW r)) t = cf_106_L2 N X N 0 vx (Int32.ofNat r.length) (gI (grW r)) (Int32.ofNat w) (Int32.ofNat 0) t := by
          generalize gI (grW r) = g0
          unfold cf_106_99 cf_106_106
          simp (disch := omega) only [ev_S, ev_C, ↓reduceIte, Nat.reduceEqDiff, Nat.reduceLeDiff, Nat.reduceAdd, Nat.reduceMul, Nat.reduceSub, reduceCtorEq, l32_0, l32_1, l32_2, l32_3, l32_4, l32_5, l32_6, l32_7, l32_8, l32_9, l32_10, l32_11, l32_12, l32_13, l32_14, l32_15, l32_16, l32_17, l32_18, l32_19, l32_20, l32_21, l32_22, l32_23, l32_24, l32_25, l32_26, l32_27, l32_28, l32_29, l32_33, l32_40, l32_41, l32_44, l32_45, l32_59, l32_61, l32_91, l32_93, l32_123, l32_125, ga]
        rw [E3]
        refine lp (fun F i (t' : cS) => cf_106_L2 N X F 0 vx (Int32.ofNat r.length) (gI (grW r)) (Int32.ofNat w) (Int32.ofNat i) t') (grW r) (fun i t' => cG t t' u (u + (i + (((List.range i).map (plc r)).map List.length).sum)) w (((List.range i).map (plc r)).map nR)) (fun R => ∃ t' v, R = some (t', .inl (some (.long v))) ∧ cE t t' u v (ansM 2 (((List.range (grW r)).map (plc r)).map nR))) ?_ ?_ (grW r) 0 N t (Nat.zero_add _) (by omega) (cG.nil hh)
        · intro F i t1 hi G _
          left
          have hl0' : ((List.range i).map (plc r)).length = i := by rw [List.length_map, List.length_range]
          have hll : (((List.range i).map (plc r)).map nR).length = i := by rw [List.length_map, hl0']
          have hsi := hcs i (by omega)
          have hsi : (((List.range i).map (plc r)).map List.length).sum ≤ r.length := hsi
          have n1 : ¬ gI (grW r) < Int32.ofNat i := fun q => absurd ((gI_lt (by omega) (by omega)).mp q) (by omega)
          obtain ⟨t2, v, r1, r2, r3⟩ := c_plc (N := N) (X := X) (j := i) hN G.c (G.up hxr) hr (by omega) (by rw [hll]; omega) (by omega)
          obtain ⟨t3, p1, p2⟩ := cG.addRow (N := N) (X := X) G r2 r3 (by rw [hll]; omega)
          refine ⟨t3, ?_, ?_⟩
          · rw [range_map_s, List.map_append, List.map_append, List.sum_append]
            have e : u + (i + 1 + ((((List.range i).map (plc r)).map List.length).sum + ([plc r i].map List.length).sum)) = u + (i + (((List.range i).map (plc r)).map List.length).sum) + 1 + (plc r i).length := by
              show u + (i + 1 + (_ + ((plc r i).length + 0))) = _
              omega
            rw [e]
            exact p2
          · show cf_106_111 N X (cf_106_L2 N X F) vx (Int32.ofNat r.length) (gI (grW r)) (Int32.ofNat w) (Int32.ofNat i) t1 = _
            generalize gI (grW r) = g0 at *
            unfold cf_106_111 cf_106_118 cf_106_130 cf_106_133
            simp (disch := omega) only [ev_S, ev_C, ↓reduceIte, Nat.reduceEqDiff, Nat.reduceLeDiff, Nat.reduceAdd, Nat.reduceMul, Nat.reduceSub, reduceCtorEq, l32_0, l32_1, l32_2, l32_3, l32_4, l32_5, l32_6, l32_7, l32_8, l32_9, l32_10, l32_11, l32_12, l32_13, l32_14, l32_15, l32_16, l32_17, l32_18, l32_19, l32_20, l32_21, l32_22, l32_23, l32_24, l32_25, l32_26, l32_27, l32_28, l32_29, l32_33, l32_40, l32_41, l32_44, l32_45, l32_59, l32_61, l32_91, l32_93, l32_123, l32_125, n1, r1, p1]
        · intro F t1 G
          have hlp : ((List.range (grW r)).map (plc r)).length = grW r := by rw [List.length_map, List.length_range]
          have hsi := hcs (grW r) (by omega)
          have hsi : (((List.range (grW r)).map (plc r)).map List.length).sum ≤ r.length := hsi
          obtain ⟨t2, v, b1, b2⟩ := cG.bT (N := N) (X := X) hN G (fun r' hr' => by
            obtain ⟨j, -, rfl⟩ := List.mem_map.mp hr'
            exact Nat.le_trans plcT_len hr) (by rw [hlp]; omega) (by rw [hlp]; omega) (by omega) (by omega)
          refine ⟨t2, v, ?_, b2⟩
          have n1 : gI (grW r) < Int32.ofNat (grW r) := (gI_lt (by omega) (by omega)).mpr (Nat.le_refl _)
          show cf_106_111 N X (cf_106_L2 N X F) vx (Int32.ofNat r.length) (gI (grW r)) (Int32.ofNat w) (Int32.ofNat (grW r)) t1 = _
          generalize gI (grW r) = g0 at *
          unfold cf_106_111 cf_106_139 cf_106_149
          simp (disch := omega) only [ev_S, ev_C, ↓reduceIte, Nat.reduceEqDiff, Nat.reduceLeDiff, Nat.reduceAdd, Nat.reduceMul, Nat.reduceSub, reduceCtorEq, l32_0, l32_1, l32_2, l32_3, l32_4, l32_5, l32_6, l32_7, l32_8, l32_9, l32_10, l32_11, l32_12, l32_13, l32_14, l32_15, l32_16, l32_17, l32_18, l32_19, l32_20, l32_21, l32_22, l32_23, l32_24, l32_25, l32_26, l32_27, l32_28, l32_29, l32_33, l32_40, l32_41, l32_44, l32_45, l32_59, l32_61, l32_91, l32_93, l32_123, l32_125, n1, b1]
  · rw [if_neg c1]
    refine ⟨t, _, ?_, cE.tr hh⟩
    have b1 := c_rf (N := N) (X := X) (t := t) (k := Int32.ofNat 3)
    generalize kn x = kx' at *
    unfold cf_106 cf_106_0 cf_106_4 cf_106_8 cf_106_12
    simp (disch := omega) only [ev_S, ev_C, ↓reduceIte, Nat.reduceEqDiff, Nat.reduceLeDiff, Nat.reduceAdd, Nat.reduceMul, Nat.reduceSub, reduceCtorEq, l32_0, l32_1, l32_2, l32_3, l32_4, l32_5, l32_6, l32_7, l32_8, l32_9, l32_10, l32_11, l32_12, l32_13, l32_14, l32_15, l32_16, l32_17, l32_18, l32_19, l32_20, l32_21, l32_22, l32_23, l32_24, l32_25, l32_26, l32_27, l32_28, l32_29, l32_33, l32_40, l32_41, l32_44, l32_45, l32_59, l32_61, l32_91, l32_93, l32_123, l32_125, kx, c1, b1]
end GRR
end
-- ### 97d.pure.lean.txt
section
/-! ===== PURE: run (57): take, drop: the reference ===== -/
def filN (x : Nod) : Nod := if kn x = 2 then nR [] else nZ 0
def tkI (neg : Bool) (S W j : Nat) : Option Nat := if neg = true then (if W ≤ S + j then some (S + j - W) else none) else (if j < S then some j else none)
def tkP (x : Nod) (neg : Bool) (W j : Nat) : Nod := match tkI neg (szN x) W j with
  | some k => (pts x).getD k (filN x)
  | none => filN x
def ansTk (x : Nod) (z : Int32) : Ans := if (if kn x = 1 then 64 else 20) < wN z then .inl 2 else ansM (kn x) ((List.range (wN z)).map (tkP x (decide (z < 0)) (wN z)))
def ansDr (x : Nod) (z : Int32) : Ans := ansM (kn x) (if z < 0 then (pts x).take (szN x - Nat.min (wN z) (szN x)) else (pts x).drop (Nat.min (wN z) (szN x)))
/-- where taking begins -/
def tkF (neg : Bool) (S W : Nat) : Int32 := if neg = true then Int32.ofNat S - Int32.ofNat W else Int32.ofNat 0
theorem t32 {n : Nat} (h : n < 2147483648) : Int64.toInt32 (Int64.ofNat n) = Int32.ofNat n := by rw [← i64of32 h, i64_32]
theorem sub_t {S W j : Nat} (hS : S ≤ 64) (hW : W ≤ 64) (hj : j ≤ 64) : (Int32.ofNat S - Int32.ofNat W + Int32.ofNat j).toInt = (S : Int) - W + j := by
  rw [Int32.toInt_add, Int32.toInt_sub, i32t (by omega), i32t (by omega), i32t (by omega)]
  have e6 : (2 : Nat) ^ 32 = 4294967296 := by decide
  rw [e6, Int.bmod_eq_of_le (n := (S : Int) - W) (by omega) (by omega), Int.bmod_eq_of_le (by omega) (by omega)]
section TKI
variable {S W j k : Nat} {neg : Bool}
theorem tkF_s : tkF neg S W + Int32.ofNat (j + 1) = tkF neg S W + Int32.ofNat j + Int32.ofNat 1 := by
  rw [Int32.ofNat_add, Int32.add_assoc]
theorem tkF_z {j : Nat} : tkF false S W + Int32.ofNat j = Int32.ofNat j := by
  show Int32.ofNat 0 + Int32.ofNat j = _
  rw [← Int32.ofNat_add, Nat.zero_add]
theorem tkI_some (hS : S ≤ 64) (hW : W ≤ 64) (hj : j < W) (h : tkI neg S W j = some k) : k < S ∧ tkF neg S W + Int32.ofNat j = Int32.ofNat k := by
  unfold tkI at h
  cases neg with
  | false =>
    rw [if_neg (by intro q; cases q)] at h
    by_cases c : j < S
    · rw [if_pos c] at h
      cases h
      exact ⟨c, tkF_z⟩
    · rw [if_neg c] at h
      cases h
  | true =>
    rw [if_pos rfl] at h
    by_cases c : W ≤ S + j
    · rw [if_pos c] at h
      cases h
      refine ⟨by omega, Int32.toInt.inj ?_⟩
      show (Int32.ofNat S - Int32.ofNat W + Int32.ofNat j).toInt = _
      rw [sub_t hS hW (by omega), i32t (by omega)]
      omega
    · rw [if_neg c] at h
      cases h
theorem tkI_none (hS : S ≤ 64) (hW : W ≤ 64) (hj : j < W) (h : tkI neg S W j = none) : tkF neg S W + Int32.ofNat j < 0 ∨ Int32.ofNat S ≤ tkF neg S W + Int32.ofNat j := by
  unfold tkI at h
  cases neg with
  | false =>
    rw [if_neg (by intro q; cases q)] at h
    by_cases c : j < S
    · rw [if_pos c] at h
      cases h
    · right
      rw [tkF_z]
      exact (i32le (by omega) (by omega)).mpr (by omega)
  | true =>
    rw [if_pos rfl] at h
    by_cases c : W ≤ S + j
    · rw [if_pos c] at h
      cases h
    · left
      show Int32.ofNat S - Int32.ofNat W + Int32.ofNat j < 0
      rw [Int32.lt_iff_toInt_lt, sub_t hS hW (by omega)]
      show (S : Int) - W + j < 0
      omega
theorem tkF_end (hS : S ≤ 64) (hW : W ≤ 64) (hj : j ≤ W) : (tkF neg S W + Int32.ofNat W ≤ tkF neg S W + Int32.ofNat j) ↔ W ≤ j := by
  cases neg with
  | false =>
    rw [tkF_z, tkF_z, i32le (by omega) (by omega)]
  | true =>
    show (Int32.ofNat S - Int32.ofNat W + Int32.ofNat W ≤ Int32.ofNat S - Int32.ofNat W + Int32.ofNat j) ↔ _
    rw [Int32.le_iff_toInt_le, sub_t hS hW (by omega), sub_t hS hW (by omega)]
    omega
end TKI
section TDR
variable {N : Nat} {s s' : mS} {n f f' m a : Nat} {x : Nod} {xs ys : List Nod} {z : Int32}
theorem tkP_ok (h0 : ¬ kn x = 0) (wx : wfN x) (dx : x.1 ≤ 4) {W : Nat} {neg : Bool} : mkOk (kn x) ((List.range W).map (tkP x neg W)) ∧ (∀ y ∈ (List.range W).map (tkP x neg W), wfN y) ∧ ∀ y ∈ (List.range W).map (tkP x neg W), y.1 ≤ 4 := by
  have lx := kn_le (x := x)
  have key : ∀ j, (tkP x neg W j ∈ pts x) ∨ tkP x neg W j = filN x := fun j => by
    unfold tkP
    cases tkI neg (szN x) W j with
    | none => exact Or.inr rfl
    | some k =>
      show (pts x).getD k (filN x) ∈ pts x ∨ (pts x).getD k (filN x) = filN x
      by_cases c : k < (pts x).length
      · left
        rw [getD_e c]
        exact List.getElem_mem c
      · right
        rw [List.getD_eq_getElem?_getD, List.getElem?_eq_none (by omega)]
        rfl
  have fw : wfN (filN x) ∧ (filN x).1 ≤ 4 := by
    unfold filN
    split
    · exact ⟨nR_wf (by show 0 ≤ 64; omega), Nat.zero_le _⟩
    · exact ⟨trivial, Nat.zero_le _⟩
  refine ⟨?_, fun y hy => ?_, fun y hy => ?_⟩
  · have kd : ∀ y ∈ (List.range W).map (tkP x neg W), (kn x = 1 → kdN y = 0) ∧ (kn x = 2 → kdN y = 1) := fun y hy => by
      obtain ⟨j, -, rfl⟩ := List.mem_map.mp hy
      rcases key j with h | h
      · exact pts_kd h
      · rw [h]
        unfold filN
        refine ⟨fun q => ?_, fun q => ?_⟩
        · rw [if_neg (by omega)]
          rfl
        · rw [if_pos q]
          rfl
    rcases (show kn x = 1 ∨ kn x = 2 ∨ kn x = 3 by omega) with h | h | h
    · rw [h]
      exact Or.inl ⟨rfl, fun y hy => (kd y hy).1 h⟩
    · rw [h]
      exact Or.inr (Or.inl ⟨rfl, fun y hy => (kd y hy).2 h⟩)
    · rw [h]
      exact Or.inr (Or.inr rfl)
  · obtain ⟨j, -, rfl⟩ := List.mem_map.mp hy
    rcases key j with h | h
    · exact wf_pts wx _ h
    · rw [h]
      exact fw.1
  · obtain ⟨j, -, rfl⟩ := List.mem_map.mp hy
    rcases key j with h | h
    · exact Nat.le_trans (pts_lv _ h) dx
    · rw [h]
      exact fw.2
theorem mny (N : Nat) {b x3 x4 x5 x6 : Int32} : mf_338_13 N b z x3 x4 x5 x6 s = mf_338_27 N b z x3 x4 x5 x6 (Int64.ofNat (wN z)) s := by
  unfold mf_338_13
  by_cases c : z < 0
  · rw [if_neg (Int32.not_le.mpr c)]
    unfold mf_338_19
    rw [neg64 c]
  · rw [if_pos (Int32.not_lt.mp c)]
    unfold mf_338_25
    rw [pos64 c]
theorem r_drop (hN : 170000 ≤ N) (H : rA s n f m ys) (La : LayN (s.2.2.1 47) (Rf f) a x) (h0 : ¬ kn x = 0) (wx : wfN x) (dx : x.1 ≤ 4) : ∃ s', mf_338 N (Int32.ofNat 21) z (Int32.ofNat a) (Int32.ofNat n) s = some (s', none) ∧ rE s s' n f m (ansDr x z) := by
  have H' := H
  obtain ⟨-, H2, H3, H4, H5, H6, H7, H8, H9, H10⟩ := H'
  have G0 : rG s (mI s 51 (Int32.ofNat n)) n f f [] := rG.nil H2
  obtain ⟨s1, hs1⟩ : ∃ s1, s1 = mI s 51 (Int32.ofNat n) := ⟨_, rfl⟩
  rw [← hs1] at G0
  have lx := kn_le (x := x)
  have kd : s.2.2.1 47 a = Int32.ofNat (kn x) := by rw [(LayN_iff.mp La).2.kd.1]; exact kd_kn
  have hla := (LayN.lt La)
  have za := H.g.size (N := N) La (by omega)
  have hpl : (pts x).length = szN x := pts_len
  have s64 := wf64 wx
  have hW := wN_le z
  have E1 : mf_338 N (Int32.ofNat 21) z (Int32.ofNat a) (Int32.ofNat n) s = mf_338_78 N z (Int32.ofNat a) (Int32.ofNat n) (Int32.ofNat (kn x)) (Int32.ofNat (szN x)) (Int64.ofNat (wN z)) s1 := by
    have E : mf_338 N (Int32.ofNat 21) z (Int32.ofNat a) (Int32.ofNat n) s = mf_338_13 N (Int32.ofNat 21) z (Int32.ofNat a) (Int32.ofNat n) (Int32.ofNat (kn x)) (Int32.ofNat (szN x)) s := by
      generalize kn x = kx at *
      generalize szN x = sx at *
      unfold mf_338 mf_338_0
      simp (disch := omega) only [ev_S, ev_P, ↓reduceIte, Nat.reduceEqDiff, Nat.reduceLeDiff, Nat.reduceAdd, Nat.reduceMul, Nat.reduceSub, reduceCtorEq, l32_0, l32_1, l32_2, l32_3, l32_4, l32_5, l32_6, l32_7, l32_8, l32_9, l32_10, l32_11, l32_12, l32_13, l32_14, l32_15, l32_16, l32_17, l32_18, l32_19, l32_20, l32_21, l32_22, l32_23, l32_24, l32_25, l32_26, l32_27, l32_28, l32_29, l32_33, l32_40, l32_41, l32_44, l32_45, l32_59, l32_61, l32_91, l32_93, l32_123, l32_125, za, kd]
    rw [E, mny, hs1]
    generalize kn x = kx at *
    generalize szN x = sx at *
    generalize Int64.ofNat (wN z) = WW
    unfold mf_338_27 mf_338_66
    simp (disch := omega) only [ev_S, ev_P, ↓reduceIte, Nat.reduceEqDiff, Nat.reduceLeDiff, Nat.reduceAdd, Nat.reduceMul, Nat.reduceSub, reduceCtorEq, l32_0, l32_1, l32_2, l32_3, l32_4, l32_5, l32_6, l32_7, l32_8, l32_9, l32_10, l32_11, l32_12, l32_13, l32_14, l32_15, l32_16, l32_17, l32_18, l32_19, l32_20, l32_21, l32_22, l32_23, l32_24, l32_25, l32_26, l32_27, l32_28, l32_29, l32_33, l32_40, l32_41, l32_44, l32_45, l32_59, l32_61, l32_91, l32_93, l32_123, l32_125]
  rw [E1]
  obtain ⟨g, hg⟩ : ∃ g, g = Nat.min (wN z) (szN x) := ⟨_, rfl⟩
  have hgs : g ≤ szN x := by rw [hg]; exact Nat.min_le_right _ _
  obtain ⟨o, ho⟩ : ∃ o, o = if z < 0 then 0 else g := ⟨_, rfl⟩
  have hog : o ≤ g := by
    rw [ho]
    split
    · exact Nat.zero_le _
    · exact Nat.le_refl _
  have E2 : mf_338_78 N z (Int32.ofNat a) (Int32.ofNat n) (Int32.ofNat (kn x)) (Int32.ofNat (szN x)) (Int64.ofNat (wN z)) s1 = mf_338_L9 N N 0 (Int32.ofNat o) (Int32.ofNat o) (Int32.ofNat a) (Int32.ofNat n) (Int32.ofNat (kn x)) (Int32.ofNat (szN x)) (Int32.ofNat g) s1 := by
    have E : mf_338_78 N z (Int32.ofNat a) (Int32.ofNat n) (Int32.ofNat (kn x)) (Int32.ofNat (szN x)) (Int64.ofNat (wN z)) s1 = mf_338_95 N z (Int32.ofNat a) (Int32.ofNat n) (Int32.ofNat (kn x)) (Int32.ofNat (szN x)) (Int32.ofNat g) s1 := by
      unfold mf_338_78
      rw [i64of32 (show szN x < 2147483648 by omega)]
      have hl := lg_le (a := wN z) (b := szN x) (by omega) (by omega)
      by_cases c : wN z ≤ szN x
      · rw [if_pos (show lg_cmp (Int64.ofNat (wN z)) (Int64.ofNat (szN x)) ≤ 0 from hl.mpr c)]
        unfold mf_338_92
        rw [hg, show Nat.min (wN z) (szN x) = wN z from Nat.min_eq_left c, t32 (by omega)]
      · rw [if_neg (show ¬ lg_cmp (Int64.ofNat (wN z)) (Int64.ofNat (szN x)) ≤ 0 from fun q => c (hl.mp q))]
        unfold mf_338_87
        rw [hg, show Nat.min (wN z) (szN x) = szN x from Nat.min_eq_right (by omega)]
    rw [E]
    unfold mf_338_95
    by_cases c : z < 0
    · rw [if_neg (Int32.not_le.mpr c), ho, if_pos c]
      rfl
    · rw [if_pos (Int32.not_lt.mp c), ho, if_neg c]
      rfl
  rw [E2]
  have hend : ∀ j, (Int32.ofNat o + Int32.ofNat (szN x) - Int32.ofNat g ≤ Int32.ofNat j) = (Int32.ofNat (o + szN x - g) ≤ Int32.ofNat j) := fun j => by
    rw [← Int32.ofNat_add, ev_S.2.2.2.2.1 (by omega)]
  have eL : (if z < 0 then (pts x).take (szN x - Nat.min (wN z) (szN x)) else (pts x).drop (Nat.min (wN z) (szN x))) = ((pts x).drop o).take (szN x - g) := by
    rw [← hg, ho]
    by_cases c : z < 0
    · rw [if_pos c, if_pos c, List.drop_zero]
    · rw [if_neg c, if_neg c, List.take_of_length_le (by rw [List.length_drop]; omega)]
  unfold ansDr
  rw [eL]
  have hlk : ∀ j, j ≤ szN x - g → (((pts x).drop o).take j).length = j := fun j hj => by
    rw [List.length_take, List.length_drop]
    omega
  refine lp (fun F j (s' : mS) => mf_338_L9 N F 0 (Int32.ofNat o) (Int32.ofNat (o + j)) (Int32.ofNat a) (Int32.ofNat n) (Int32.ofNat (kn x)) (Int32.ofNat (szN x)) (Int32.ofNat g) s') (szN x - g) (fun j s' => rG s s' n f f (((pts x).drop o).take j)) (fun R => ∃ s', R = some (s', none) ∧ rE s s' n f m (ansM (kn x) (((pts x).drop o).take (szN x - g)))) ?_ ?_ (szN x - g) 0 N s1 (Nat.zero_add _) (by omega) G0
  · intro F j s2 hj G _
    left
    have hoj : o + j < (pts x).length := by omega
    obtain ⟨s3, d1, d2⟩ := rG.elem (N := N) (i := o + j) G (by rw [hlk j (by omega)]; omega) (by omega) La hoj
    refine ⟨s3, ?_, ?_⟩
    · have hjd : j < ((pts x).drop o).length := by rw [List.length_drop]; omega
      rw [List.take_succ_eq_append_getElem hjd, List.getElem_drop]
      exact d2
    · show mf_338_113 N (mf_338_L9 N F) (Int32.ofNat a) (Int32.ofNat n) (Int32.ofNat (kn x)) (Int32.ofNat (szN x)) (Int32.ofNat g) (Int32.ofNat o) (Int32.ofNat (o + j)) s2 = _
      have n1 : ¬ o + szN x - g ≤ o + j := by omega
      unfold mf_338_113
      rw [if_neg (fun q => n1 ((i32le (by omega) (by omega)).mp ((hend (o + j)).mp q)))]
      generalize kn x = kx at *
      generalize szN x = sx at *
      unfold mf_338_126 mf_338_133
      simp (disch := omega) only [ev_S, ev_P, ↓reduceIte, Nat.reduceEqDiff, Nat.reduceLeDiff, Nat.reduceAdd, Nat.reduceMul, Nat.reduceSub, reduceCtorEq, l32_0, l32_1, l32_2, l32_3, l32_4, l32_5, l32_6, l32_7, l32_8, l32_9, l32_10, l32_11, l32_12, l32_13, l32_14, l32_15, l32_16, l32_17, l32_18, l32_19, l32_20, l32_21, l32_22, l32_23, l32_24, l32_25, l32_26, l32_27, l32_28, l32_29, l32_33, l32_40, l32_41, l32_44, l32_45, l32_59, l32_61, l32_91, l32_93, l32_123, l32_125, d1]
      rfl
  · intro F s2 G
    have hmem : ∀ y ∈ ((pts x).drop o).take (szN x - g), y ∈ pts x := fun y hy => List.mem_of_mem_drop (List.mem_of_mem_take hy)
    have hl := hlk (szN x - g) (Nat.le_refl _)
    obtain ⟨s3, b1, b2⟩ := rA.builds (N := N) (k := kn x) hN H G (pts_ok h0 hmem) (fun y hy => wf_pts wx y (hmem y hy)) (fun y hy => Nat.le_trans (pts_lv y (hmem y hy)) dx) (by omega) (by omega) (by rw [hl]; omega) (by rw [hl]; omega)
    refine ⟨s3, ?_, b2⟩
    show mf_338_113 N (mf_338_L9 N F) (Int32.ofNat a) (Int32.ofNat n) (Int32.ofNat (kn x)) (Int32.ofNat (szN x)) (Int32.ofNat g) (Int32.ofNat o) (Int32.ofNat (o + (szN x - g))) s2 = _
    unfold mf_338_113
    rw [if_pos ((hend (o + (szN x - g))).mpr ((i32le (by omega) (by omega)).mpr (by omega)))]
    generalize kn x = kx at *
    unfold mf_338_139 mf_338_147
    simp (disch := omega) only [ev_S, ev_P, ↓reduceIte, Nat.reduceEqDiff, Nat.reduceLeDiff, Nat.reduceAdd, Nat.reduceMul, Nat.reduceSub, reduceCtorEq, l32_0, l32_1, l32_2, l32_3, l32_4, l32_5, l32_6, l32_7, l32_8, l32_9, l32_10, l32_11, l32_12, l32_13, l32_14, l32_15, l32_16, l32_17, l32_18, l32_19, l32_20, l32_21, l32_22, l32_23, l32_24, l32_25, l32_26, l32_27, l32_28, l32_29, l32_33, l32_40, l32_41, l32_44, l32_45, l32_59, l32_61, l32_91, l32_93, l32_123, l32_125, b1]
theorem r_tke (hN : 170000 ≤ N) (H : rA s n f m ys) (La : LayN (s.2.2.1 47) (Rf f) a x) (hE : LayN (s.2.2.1 47) (Rf f) 154240 (nR [])) (h0 : ¬ kn x = 0) (wx : wfN x) (dx : x.1 ≤ 4) : ∃ s', mf_338 N (Int32.ofNat 20) z (Int32.ofNat a) (Int32.ofNat n) s = some (s', none) ∧ rE s s' n f m (ansTk x z) := by
  have H' := H
  obtain ⟨-, H2, H3, H4, H5, H6, H7, H8, H9, H10⟩ := H'
  have G0 : rG s (mI s 51 (Int32.ofNat n)) n f f [] := rG.nil H2
  obtain ⟨s1, hs1⟩ : ∃ s1, s1 = mI s 51 (Int32.ofNat n) := ⟨_, rfl⟩
  rw [← hs1] at G0
  have T := fun k => rA.trb (N := N) H s vfr.rf rfl rfl rfl k
  have lx := kn_le (x := x)
  have kd : s.2.2.1 47 a = Int32.ofNat (kn x) := by rw [(LayN_iff.mp La).2.kd.1]; exact kd_kn
  have hla := (LayN.lt La)
  have za := H.g.size (N := N) La (by omega)
  have hpl : (pts x).length = szN x := pts_len
  have s64 := wf64 wx
  have hW := wN_le z
  have E1 : mf_338 N (Int32.ofNat 20) z (Int32.ofNat a) (Int32.ofNat n) s = mf_338_52 N (Int32.ofNat 20) z (Int32.ofNat a) (Int32.ofNat n) (Int32.ofNat (kn x)) (Int32.ofNat (szN x)) (Int64.ofNat (wN z)) (Int64.ofNat (wN z)) (Int64.ofNat (if kn x = 1 then 64 else 20)) s := by
    have E : mf_338 N (Int32.ofNat 20) z (Int32.ofNat a) (Int32.ofNat n) s = mf_338_13 N (Int32.ofNat 20) z (Int32.ofNat a) (Int32.ofNat n) (Int32.ofNat (kn x)) (Int32.ofNat (szN x)) s := by
      generalize kn x = kx at *
      generalize szN x = sx at *
      unfold mf_338 mf_338_0
      simp (disch := omega) only [ev_S, ev_P, ↓reduceIte, Nat.reduceEqDiff, Nat.reduceLeDiff, Nat.reduceAdd, Nat.reduceMul, Nat.reduceSub, reduceCtorEq, l32_0, l32_1, l32_2, l32_3, l32_4, l32_5, l32_6, l32_7, l32_8, l32_9, l32_10, l32_11, l32_12, l32_13, l32_14, l32_15, l32_16, l32_17, l32_18, l32_19, l32_20, l32_21, l32_22, l32_23, l32_24, l32_25, l32_26, l32_27, l32_28, l32_29, l32_33, l32_40, l32_41, l32_44, l32_45, l32_59, l32_61, l32_91, l32_93, l32_123, l32_125, za, kd]
    rw [E, mny]
    unfold mf_338_27
    rw [if_neg (fun q => q rfl)]
    unfold mf_338_35
    by_cases c : kn x = 1
    · rw [if_neg (show ¬ ¬ Int32.ofNat (kn x) = 1 from fun q => q (by rw [c]; rfl)), if_pos c]
      rfl
    · rw [if_pos (show ¬ Int32.ofNat (kn x) = 1 from fun q => c (ofNat_inj (by omega) (by omega) q)), if_neg c]
      rfl
  rw [E1]
  have hl := lg_le (a := wN z) (b := if kn x = 1 then 64 else 20) (by omega) (by split <;> omega)
  have hlim : (if kn x = 1 then 64 else 20) ≤ 64 := by split <;> omega
  unfold ansTk
  unfold mf_338_52
  by_cases c : (if kn x = 1 then 64 else 20) < wN z
  · rw [if_pos c, if_neg (show ¬ lg_cmp (Int64.ofNat (wN z)) (Int64.ofNat (if kn x = 1 then 64 else 20)) ≤ 0 from fun q => absurd (hl.mp q) (by omega))]
    obtain ⟨b1, b2⟩ := T 2
    refine ⟨_, ?_, b2⟩
    unfold mf_338_56 mf_338_65
    simp (disch := omega) only [ev_S, ev_P, ↓reduceIte, Nat.reduceEqDiff, Nat.reduceLeDiff, Nat.reduceAdd, Nat.reduceMul, Nat.reduceSub, reduceCtorEq, l32_0, l32_1, l32_2, l32_3, l32_4, l32_5, l32_6, l32_7, l32_8, l32_9, l32_10, l32_11, l32_12, l32_13, l32_14, l32_15, l32_16, l32_17, l32_18, l32_19, l32_20, l32_21, l32_22, l32_23, l32_24, l32_25, l32_26, l32_27, l32_28, l32_29, l32_33, l32_40, l32_41, l32_44, l32_45, l32_59, l32_61, l32_91, l32_93, l32_123, l32_125, b1]
  · rw [if_neg c, if_pos (show lg_cmp (Int64.ofNat (wN z)) (Int64.ofNat (if kn x = 1 then 64 else 20)) ≤ 0 from hl.mpr (by omega))]
    have hW6 : wN z ≤ 64 := by omega
    obtain ⟨F0, hF0⟩ : ∃ F0, F0 = tkF (decide (z < 0)) (szN x) (wN z) := ⟨_, rfl⟩
    have E2 : mf_338_66 N (Int32.ofNat 20) z (Int32.ofNat a) (Int32.ofNat n) (Int32.ofNat (kn x)) (Int32.ofNat (szN x)) (Int64.ofNat (wN z)) s = mf_338_L2 N N 0 F0 (Int32.ofNat a) (Int32.ofNat n) (Int32.ofNat (kn x)) (Int32.ofNat (szN x)) (Int64.ofNat (wN z)) F0 s1 := by
      unfold mf_338_66
      rw [if_pos (by decide), ← hs1]
      unfold mf_338_148
      by_cases d : z < 0
      · rw [if_neg (Int32.not_le.mpr d), hF0, decide_eq_true d]
        unfold mf_338_152 mf_338_162
        rw [t32 (by omega)]
        rfl
      · rw [if_pos (Int32.not_lt.mp d), hF0, decide_eq_false d]
        rfl
    rw [E2]
    generalize hneg : decide (z < 0) = neg at *
    generalize wN z = W at *
    have st0 : F0 = F0 + Int32.ofNat 0 := (Int32.add_zero F0).symm
    have goal : ∃ s', mf_338_L2 N N 0 (F0 + Int32.ofNat 0) (Int32.ofNat a) (Int32.ofNat n) (Int32.ofNat (kn x)) (Int32.ofNat (szN x)) (Int64.ofNat W) F0 s1 = some (s', none) ∧ rE s s' n f m (ansM (kn x) ((List.range W).map (tkP x neg W))) := by
      refine lp (fun F j (s' : mS) => mf_338_L2 N F 0 (F0 + Int32.ofNat j) (Int32.ofNat a) (Int32.ofNat n) (Int32.ofNat (kn x)) (Int32.ofNat (szN x)) (Int64.ofNat W) F0 s') W (fun j s' => rG s s' n f f ((List.range j).map (tkP x neg W))) (fun R => ∃ s', R = some (s', none) ∧ rE s s' n f m (ansM (kn x) ((List.range W).map (tkP x neg W)))) ?_ ?_ W 0 N s1 (Nat.zero_add _) (by omega) G0
      · intro F j s2 hj G _
        left
        have hll : ((List.range j).map (tkP x neg W)).length = j := by rw [List.length_map, List.length_range]
        have nend : ¬ F0 + Int32.ofNat W ≤ F0 + Int32.ofNat j := by
          rw [hF0]
          exact fun q => absurd ((tkF_end s64 hW6 (by omega)).mp q) (by omega)
        have es : F0 + Int32.ofNat (j + 1) = F0 + Int32.ofNat j + 1 := by
          rw [hF0]
          exact tkF_s
        have E3 : mf_338_L2 N (F + 1) 0 (F0 + Int32.ofNat j) (Int32.ofNat a) (Int32.ofNat n) (Int32.ofNat (kn x)) (Int32.ofNat (szN x)) (Int64.ofNat W) F0 s2 = mf_338_179 N (mf_338_L2 N F) (Int32.ofNat a) (Int32.ofNat n) (Int32.ofNat (kn x)) (Int32.ofNat (szN x)) (Int64.ofNat W) F0 (F0 + Int32.ofNat j) s2 := by
          show mf_338_168 N (mf_338_L2 N F) (Int32.ofNat a) (Int32.ofNat n) (Int32.ofNat (kn x)) (Int32.ofNat (szN x)) (Int64.ofNat W) F0 (F0 + Int32.ofNat j) s2 = _
          unfold mf_338_168
          rw [t32 (by omega), if_neg nend]
        show ∃ a' : mS, _ ∧ mf_338_L2 N (F + 1) 0 _ _ _ _ _ _ _ s2 = _
        rw [E3, es]
        rw [range_map_s]
        cases ht : tkI neg (szN x) W j with
        | some k =>
          obtain ⟨k1, k2⟩ := tkI_some s64 hW6 hj ht
          rw [← hF0] at k2
          have ep : tkP x neg W j = (pts x)[k]'(by omega) := by
            unfold tkP
            rw [ht]
            exact getD_e (by omega)
          obtain ⟨s3, d1, d2⟩ := rG.elem (N := N) (i := k) G (by rw [hll]; omega) (by omega) La (by omega)
          refine ⟨s3, by rw [ep]; exact d2, ?_⟩
          rw [k2]
          have n1 : ¬ szN x ≤ k := by omega
          unfold mf_338_179
          rw [if_neg (i32n (by omega))]
          unfold mf_338_184
          rw [if_neg (fun q => n1 ((i32le (by omega) (by omega)).mp q))]
          unfold mf_338_191
          rw [d1]
          rfl
        | none =>
          have hno := tkI_none s64 hW6 hj ht
          rw [← hF0] at hno
          have ep : tkP x neg W j = filN x := by
            unfold tkP
            rw [ht]
          have E4 : mf_338_179 N (mf_338_L2 N F) (Int32.ofNat a) (Int32.ofNat n) (Int32.ofNat (kn x)) (Int32.ofNat (szN x)) (Int64.ofNat W) F0 (F0 + Int32.ofNat j) s2 = mf_338_201 N (mf_338_L2 N F) (Int32.ofNat a) (Int32.ofNat n) (Int32.ofNat (kn x)) (Int32.ofNat (szN x)) (Int64.ofNat W) F0 (F0 + Int32.ofNat j) s2 := by
            unfold mf_338_179
            by_cases c1 : F0 + Int32.ofNat j < 0
            · rw [if_pos c1]
            · rw [if_neg c1]
              unfold mf_338_184
              rw [if_pos (hno.resolve_left c1)]
          rw [E4, ep]
          unfold filN
          by_cases c2 : kn x = 2
          · rw [if_pos c2]
            have pu := rG.push (N := N) (k := Int32.ofNat 1) (v := Int32.ofNat 154240) (x := nR []) G (by rw [hll]; omega) (Or.inr ⟨rfl, rfl, 154240, rfl, LayN.congr (fun y z => ⟨Nat.lt_of_lt_of_le z.1 G.1.2.2, z.2⟩) (fun y z => G.2.2.1.2.2 y z.1) hE⟩)
            refine ⟨_, pu.2, ?_⟩
            have p1 := pu.1
            rw [c2]
            generalize F0 + Int32.ofNat j = e at *
            generalize szN x = sx at *
            unfold mf_338_201 mf_338_208 mf_338_213 mf_338_219 mf_338_226 mf_338_229
            simp (disch := omega) only [ev_S, ev_P, ↓reduceIte, Nat.reduceEqDiff, Nat.reduceLeDiff, Nat.reduceAdd, Nat.reduceMul, Nat.reduceSub, reduceCtorEq, l32_0, l32_1, l32_2, l32_3, l32_4, l32_5, l32_6, l32_7, l32_8, l32_9, l32_10, l32_11, l32_12, l32_13, l32_14, l32_15, l32_16, l32_17, l32_18, l32_19, l32_20, l32_21, l32_22, l32_23, l32_24, l32_25, l32_26, l32_27, l32_28, l32_29, l32_33, l32_40, l32_41, l32_44, l32_45, l32_59, l32_61, l32_91, l32_93, l32_123, l32_125, p1, l32_154240]
          · rw [if_neg c2]
            obtain ⟨s3, p1, p2⟩ := rG.pushZ (N := N) G (by rw [hll]; omega) 0
            have p1 : mf_291 N (Int32.ofNat 0) (Int32.ofNat 0) s2 = _ := p1
            refine ⟨s3, p2, ?_⟩
            generalize F0 + Int32.ofNat j = e at *
            generalize szN x = sx at *
            generalize kn x = kx at *
            unfold mf_338_201 mf_338_212 mf_338_213 mf_338_225 mf_338_226 mf_338_229
            simp (disch := omega) only [ev_S, ev_P, ↓reduceIte, Nat.reduceEqDiff, Nat.reduceLeDiff, Nat.reduceAdd, Nat.reduceMul, Nat.reduceSub, reduceCtorEq, l32_0, l32_1, l32_2, l32_3, l32_4, l32_5, l32_6, l32_7, l32_8, l32_9, l32_10, l32_11, l32_12, l32_13, l32_14, l32_15, l32_16, l32_17, l32_18, l32_19, l32_20, l32_21, l32_22, l32_23, l32_24, l32_25, l32_26, l32_27, l32_28, l32_29, l32_33, l32_40, l32_41, l32_44, l32_45, l32_59, l32_61, l32_91, l32_93, l32_123, l32_125, c2, p1]
      · intro F s2 G
        have hll : ((List.range W).map (tkP x neg W)).length = W := by rw [List.length_map, List.length_range]
        have ok := tkP_ok (x := x) h0 wx dx (W := W) (neg := neg)
        obtain ⟨s3, b1, b2⟩ := rA.builds (N := N) (k := kn x) hN H G ok.1 ok.2.1 ok.2.2 (by omega) (by omega) (by rw [hll]; omega) (by rw [hll]; omega)
        refine ⟨s3, ?_, b2⟩
        show mf_338_168 N (mf_338_L2 N F) (Int32.ofNat a) (Int32.ofNat n) (Int32.ofNat (kn x)) (Int32.ofNat (szN x)) (Int64.ofNat W) F0 (F0 + Int32.ofNat W) s2 = _
        unfold mf_338_168
        rw [t32 (by omega), if_pos (Int32.le_refl _)]
        generalize kn x = kx at *
        unfold mf_338_235 mf_338_243
        simp (disch := omega) only [ev_S, ev_P, ↓reduceIte, Nat.reduceEqDiff, Nat.reduceLeDiff, Nat.reduceAdd, Nat.reduceMul, Nat.reduceSub, reduceCtorEq, l32_0, l32_1, l32_2, l32_3, l32_4, l32_5, l32_6, l32_7, l32_8, l32_9, l32_10, l32_11, l32_12, l32_13, l32_14, l32_15, l32_16, l32_17, l32_18, l32_19, l32_20, l32_21, l32_22, l32_23, l32_24, l32_25, l32_26, l32_27, l32_28, l32_29, l32_33, l32_40, l32_41, l32_44, l32_45, l32_59, l32_61, l32_91, l32_93, l32_123, l32_125, b1]
    rw [← st0] at goal
    exact goal
end TDR
end
-- ### 97e.pure.lean.txt
section
/-! ===== PURE: run (58): take, drop: the class ===== -/
theorem i64lt0 {a b : Int64} : a < b ↔ a.toInt < b.toInt := Int64.lt_iff_toInt_lt
theorem i64add_t {a b : Int64} (h1 : -9000000000 ≤ a.toInt) (h2 : a.toInt ≤ 9000000000) (h3 : -9000000000 ≤ b.toInt) (h4 : b.toInt ≤ 9000000000) : (a + b).toInt = a.toInt + b.toInt := by
  rw [Int64.toInt_add]
  have e6 : (2 : Nat) ^ 64 = 18446744073709551616 := by decide
  rw [e6]
  exact Int.bmod_eq_of_le (by omega) (by omega)
theorem z64_b (z : Int32) : -2147483648 ≤ (Int32.toInt64 z).toInt ∧ (Int32.toInt64 z).toInt ≤ 2147483647 := by
  rw [Int32.toInt_toInt64]
  have h1 := Int32.toInt_lt z
  have h2 := Int32.le_toInt z
  have e : (2 : Int) ^ 31 = 2147483648 := by decide
  omega
theorem i64z : (0 : Int64).toInt = 0 := by decide
theorem abs64 (z : Int32) : (if 0 < Int32.toInt64 z then Int32.toInt64 z else -Int32.toInt64 z) = Int64.ofNat (wN z) := by
  by_cases c : z < 0
  · rw [if_neg (fun q => by
      rw [i64lt0, i64z, Int32.toInt_toInt64] at q
      have := i32m c
      omega), neg64 c]
  · by_cases d : 0 < Int32.toInt64 z
    · rw [if_pos d, pos64 c]
    · rw [if_neg d]
      have e : Int32.toInt64 z = 0 := by
        refine Int64.toInt.inj ?_
        rw [i64lt0, i64z] at d
        have h0 : ¬ z.toInt < 0 := fun q => c (Int32.lt_iff_toInt_lt.mpr q)
        rw [Int32.toInt_toInt64] at d ⊢
        rw [i64z]
        omega
      have e2 := pos64 c
      rw [← e2, e]
      rfl
theorem dr1 {z : Int32} {S : Nat} (hS : S ≤ 64) : Int64.toInt32 (if (if 0 < Int32.toInt64 z then Int32.toInt64 z else 0) < Int32.toInt64 (Int32.ofNat S) then (if 0 < Int32.toInt64 z then Int32.toInt64 z else 0) else Int32.toInt64 (Int32.ofNat S)) = Int32.ofNat (if z < 0 then 0 else Nat.min (wN z) S) := by
  have hW := wN_le z
  have es : Int32.toInt64 (Int32.ofNat S) = Int64.ofNat S := i64of32 (by omega)
  by_cases c : z < 0
  · have e : (if 0 < Int32.toInt64 z then Int32.toInt64 z else 0) = 0 := if_neg (fun q => by
      rw [i64lt0, i64z, Int32.toInt_toInt64] at q
      have := i32m c
      omega)
    rw [e, if_pos c]
    by_cases d : 0 < Int32.toInt64 (Int32.ofNat S)
    · rw [if_pos d]
      rfl
    · rw [if_neg d, i64_32]
      rw [es, i64lt0, i64z, i64t (by omega)] at d
      congr 1
      omega
  · have hz := pos64 c
    have e : (if 0 < Int32.toInt64 z then Int32.toInt64 z else 0) = Int64.ofNat (wN z) := by
      have a := abs64 z
      by_cases d : 0 < Int32.toInt64 z
      · rw [if_pos d] at a ⊢
        exact a
      · rw [if_neg d]
        rw [hz, i64lt0, i64z, i64t (by omega)] at d
        have h0 : wN z = 0 := by omega
        rw [h0]
        rfl
    rw [e, if_neg c, es]
    have hl := i64lt (a := wN z) (b := S) (by omega) (by omega)
    by_cases d : wN z < S
    · rw [if_pos (hl.mpr d), t32 (by omega)]
      congr 1
      exact (Nat.min_eq_left (by omega)).symm
    · rw [if_neg (fun q => d (hl.mp q)), t32 (by omega)]
      congr 1
      exact (Nat.min_eq_right (by omega)).symm
theorem dr2 {z : Int32} {S : Nat} (hS : S ≤ 64) : Int64.toInt32 (if Int32.toInt64 (Int32.ofNat S) + (if 0 < Int32.toInt64 z then 0 else Int32.toInt64 z) < 0 then 0 else Int32.toInt64 (Int32.ofNat S) + (if 0 < Int32.toInt64 z then 0 else Int32.toInt64 z)) = Int32.ofNat (if z < 0 then S - wN z else S) := by
  have hW := wN_le z
  have es : Int32.toInt64 (Int32.ofNat S) = Int64.ofNat S := i64of32 (by omega)
  by_cases c : z < 0
  · have hm := i32m c
    have hw : (wN z : Int) = -z.toInt := by
      unfold wN
      omega
    have e : (if 0 < Int32.toInt64 z then 0 else Int32.toInt64 z) = Int32.toInt64 z := if_neg (fun q => by
      rw [i64lt0, i64z, Int32.toInt_toInt64] at q
      omega)
    have zb := z64_b z
    have st : (Int32.toInt64 (Int32.ofNat S) + Int32.toInt64 z).toInt = (S : Int) - wN z := by
      rw [i64add_t (by rw [es, i64t (by omega)]; omega) (by rw [es, i64t (by omega)]; omega) (by omega) (by omega), es, i64t (by omega), Int32.toInt_toInt64, hw]
      omega
    rw [e, if_pos c]
    by_cases d : wN z ≤ S
    · have hnn : ¬ Int32.toInt64 (Int32.ofNat S) + Int32.toInt64 z < 0 := fun q => by
        rw [i64lt0, i64z, st] at q
        omega
      rw [if_neg hnn]
      have e2 : Int32.toInt64 (Int32.ofNat S) + Int32.toInt64 z = Int64.ofNat (S - wN z) := by
        refine Int64.toInt.inj ?_
        rw [st, i64t (by omega)]
        omega
      rw [e2, t32 (by omega)]
    · have hnn : Int32.toInt64 (Int32.ofNat S) + Int32.toInt64 z < 0 := by
        rw [i64lt0, i64z, st]
        omega
      rw [if_pos hnn, show S - wN z = 0 by omega]
      rfl
  · have e : (if 0 < Int32.toInt64 z then 0 else Int32.toInt64 z) = 0 := by
      by_cases d : 0 < Int32.toInt64 z
      · rw [if_pos d]
      · rw [if_neg d]
        refine Int64.toInt.inj ?_
        rw [i64lt0, i64z] at d
        have h0 : ¬ z.toInt < 0 := fun q => c (Int32.lt_iff_toInt_lt.mpr q)
        rw [Int32.toInt_toInt64] at d ⊢
        rw [i64z]
        omega
    rw [e, if_neg c, Int64.add_zero, if_neg (fun q => by
      rw [es, i64lt0, i64z, i64t (by omega)] at q
      omega), i64_32]
section TDC
variable {N : Nat} {X : Nat → Option zz_C} {t t' : cS} {u u' w o e : Nat} {x y : Nod} {vx vy v : Int64} {xs : List Nod} {z : Int32}
theorem cG.all (hN : 170000 ≤ N) (G : cG t t' u u' w xs) (hx : cN (cel t) u vx x) (wx : wfN x) (ho : o ≤ e) (he : e ≤ (pts x).length) (hw : w + xs.length + 70 < 61000) : ∃ t2, cf_124 N X vx (Int32.ofNat o) (Int32.ofNat e) t' = some (t2, .inl none) ∧ cG t t2 u u' w (xs ++ ((pts x).drop o).take (e - o)) := by
  have s64 := sz64 wx
  have hlk : ∀ j, j ≤ e - o → (((pts x).drop o).take j).length = j := fun j hj => by
    rw [List.length_take, List.length_drop]
    omega
  have E1 : cf_124 N X vx (Int32.ofNat o) (Int32.ofNat e) t' = cf_124_L1 N X N 0 vx (Int32.ofNat e) (Int32.ofNat (o + 0)) t' := rfl
  rw [E1]
  refine lp (fun F j (t1 : cS) => cf_124_L1 N X F 0 vx (Int32.ofNat e) (Int32.ofNat (o + j)) t1) (e - o) (fun j t1 => cG t t1 u u' w (xs ++ ((pts x).drop o).take j)) (fun R => ∃ t2, R = some (t2, .inl none) ∧ cG t t2 u u' w (xs ++ ((pts x).drop o).take (e - o))) ?_ ?_ (e - o) 0 N t' (Nat.zero_add _) (by omega) (by rw [List.take_zero, List.append_nil]; exact G)
  · intro F j t1 hj G1 _
    left
    have n1 : ¬ e ≤ o + j := by omega
    obtain ⟨v', d1, d2⟩ := c_part (N := N) (X := X) G1.c (G1.up hx) (i := o + j) (by omega)
    obtain ⟨t2, p1, p2⟩ := cG.put (N := N) (X := X) G1 (by rw [List.length_append, hlk j (by omega)]; omega) d2
    refine ⟨t2, ?_, ?_⟩
    · have hjd : j < ((pts x).drop o).length := by rw [List.length_drop]; omega
      rw [List.take_succ_eq_append_getElem hjd, ← List.append_assoc, List.getElem_drop]
      exact p2
    · show cf_124_3 N X (cf_124_L1 N X F) vx (Int32.ofNat e) (Int32.ofNat (o + j)) t1 = _
      unfold cf_124_3 cf_124_10 cf_124_18 cf_124_21
      simp (disch := omega) only [ev_S, ev_C, ↓reduceIte, Nat.reduceEqDiff, Nat.reduceLeDiff, Nat.reduceAdd, Nat.reduceMul, Nat.reduceSub, reduceCtorEq, l32_0, l32_1, l32_2, l32_3, l32_4, l32_5, l32_6, l32_7, l32_8, l32_9, l32_10, l32_11, l32_12, l32_13, l32_14, l32_15, l32_16, l32_17, l32_18, l32_19, l32_20, l32_21, l32_22, l32_23, l32_24, l32_25, l32_26, l32_27, l32_28, l32_29, l32_33, l32_40, l32_41, l32_44, l32_45, l32_59, l32_61, l32_91, l32_93, l32_123, l32_125, n1, d1, p1]
      rfl
  · intro F t1 G1
    refine ⟨t1, ?_, G1⟩
    show cf_124_3 N X (cf_124_L1 N X F) vx (Int32.ofNat e) (Int32.ofNat (o + (e - o))) t1 = _
    have n1 : e ≤ o + (e - o) := by omega
    unfold cf_124_3 cf_124_27
    simp (disch := omega) only [ev_S, ev_C, ↓reduceIte, Nat.reduceEqDiff, Nat.reduceLeDiff, Nat.reduceAdd, Nat.reduceMul, Nat.reduceSub, reduceCtorEq, l32_0, l32_1, l32_2, l32_3, l32_4, l32_5, l32_6, l32_7, l32_8, l32_9, l32_10, l32_11, l32_12, l32_13, l32_14, l32_15, l32_16, l32_17, l32_18, l32_19, l32_20, l32_21, l32_22, l32_23, l32_24, l32_25, l32_26, l32_27, l32_28, l32_29, l32_33, l32_40, l32_41, l32_44, l32_45, l32_59, l32_61, l32_91, l32_93, l32_123, l32_125, n1]
theorem c_drp (hN : 170000 ≤ N) (hh : cHp t u w) (hx : cN (cel t) u vx x) (hy : cN (cel t) u vy y) (wy : wfN y) (dy : y.1 ≤ 4) (hu : u ≤ 162000) (hw : w ≤ 1000) : ∃ t' v, cf_110 N X vx vy t = some (t', .inl (some (.long v))) ∧ cE t t' u v (if kn x = 0 ∧ ¬ kn y = 0 then ansDr y (ivN x) else .inl 3) := by
  have kx := c_kn (N := N) (X := X) hx
  have ky := c_kn (N := N) (X := X) hy
  have lx := kn_le (x := x)
  have ly := kn_le (x := y)
  by_cases c : kn x = 0 ∧ ¬ kn y = 0
  · rw [if_pos c]
    obtain ⟨c0, h0⟩ := c
    have zy := c_sizeN (N := N) (X := X) hh hy
    have ga := c_gathered (N := N) (X := X) hh
    have ex := hx.z c0
    have lo := c_lowOf (N := N) (X := X) (t := t) (k := 0) (a := ivN x)
    rw [← ex] at lo
    rw [c0] at kx
    have hpl : (pts y).length = szN y := pts_len
    have s64 := wf64 wy
    generalize ivN x = z at *
    obtain ⟨o, ho⟩ : ∃ o, o = if z < 0 then 0 else Nat.min (wN z) (szN y) := ⟨_, rfl⟩
    obtain ⟨e, he⟩ : ∃ e, e = if z < 0 then szN y - wN z else szN y := ⟨_, rfl⟩
    have hm := Nat.min_le_right (wN z) (szN y)
    have hoe : o ≤ e ∧ e ≤ szN y := by
      rw [ho, he]
      split
      · omega
      · exact ⟨hm, Nat.le_refl _⟩
    have E1 : cf_110 N X vx vy t = cf_110_43 N X vy (Int32.toInt64 z) (Int32.ofNat (szN y)) (Int32.ofNat w) t := by
      generalize kn y = ky' at *
      unfold cf_110 cf_110_0 cf_110_4 cf_110_7 cf_110_11 cf_110_19 cf_110_23 cf_110_34
      simp (disch := omega) only [ev_S, ev_C, ↓reduceIte, Nat.reduceEqDiff, Nat.reduceLeDiff, Nat.reduceAdd, Nat.reduceMul, Nat.reduceSub, reduceCtorEq, l32_0, l32_1, l32_2, l32_3, l32_4, l32_5, l32_6, l32_7, l32_8, l32_9, l32_10, l32_11, l32_12, l32_13, l32_14, l32_15, l32_16, l32_17, l32_18, l32_19, l32_20, l32_21, l32_22, l32_23, l32_24, l32_25, l32_26, l32_27, l32_28, l32_29, l32_33, l32_40, l32_41, l32_44, l32_45, l32_59, l32_61, l32_91, l32_93, l32_123, l32_125, kx, ky, h0, lo, zy, ga]
    rw [E1]
    obtain ⟨t2, a1, a2⟩ := cG.all (N := N) (X := X) (o := o) (e := e) hN (cG.nil hh) hy wy hoe.1 (by omega) (by rw [List.length_nil]; omega)
    rw [List.nil_append] at a2
    have eL : (if z < 0 then (pts y).take (szN y - Nat.min (wN z) (szN y)) else (pts y).drop (Nat.min (wN z) (szN y))) = ((pts y).drop o).take (e - o) := by
      rw [ho, he]
      by_cases c : z < 0
      · rw [if_pos c, if_pos c, if_pos c, List.drop_zero, Nat.sub_zero]
        congr 1
        show szN y - min (wN z) (szN y) = _
        omega
      · rw [if_neg c, if_neg c, if_neg c, List.take_of_length_le (by rw [List.length_drop]; omega)]
    unfold ansDr
    rw [eL]
    have hmem : ∀ p ∈ ((pts y).drop o).take (e - o), p ∈ pts y := fun p hp => List.mem_of_mem_drop (List.mem_of_mem_take hp)
    have hl : (((pts y).drop o).take (e - o)).length ≤ 64 := by rw [List.length_take, List.length_drop]; omega
    have ky' := c_kn (N := N) (X := X) (a2.up hy)
    obtain ⟨t3, v, b1, b2⟩ := cG.build (N := N) (X := X) (k := kn y) hN a2 (pts_ok h0 hmem) (fun p hp => wf_pts wy p (hmem p hp)) (fun p hp => Nat.le_trans (pts_lv p (hmem p hp)) dy) (by omega) (by omega) (by omega) (by omega) (by omega)
    refine ⟨t3, v, ?_, b2⟩
    unfold cf_110_43
    rw [dr1 s64, dr2 s64, ← ho, ← he, a1]
    generalize kn y = kk at *
    show cf_110_81 N X vy (Int32.ofNat w) t2 = _
    unfold cf_110_81 cf_110_89 cf_110_94
    simp (disch := omega) only [ev_S, ev_C, ↓reduceIte, Nat.reduceEqDiff, Nat.reduceLeDiff, Nat.reduceAdd, Nat.reduceMul, Nat.reduceSub, reduceCtorEq, l32_0, l32_1, l32_2, l32_3, l32_4, l32_5, l32_6, l32_7, l32_8, l32_9, l32_10, l32_11, l32_12, l32_13, l32_14, l32_15, l32_16, l32_17, l32_18, l32_19, l32_20, l32_21, l32_22, l32_23, l32_24, l32_25, l32_26, l32_27, l32_28, l32_29, l32_33, l32_40, l32_41, l32_44, l32_45, l32_59, l32_61, l32_91, l32_93, l32_123, l32_125, ky', b1]
  · rw [if_neg c]
    refine ⟨t, _, ?_, cE.tr hh⟩
    have b1 := c_rf (N := N) (X := X) (t := t) (k := Int32.ofNat 3)
    generalize kn x = kx' at *
    generalize kn y = ky' at *
    by_cases d : kx' = 0
    · have e : ky' = 0 := Classical.byContradiction (fun q => c ⟨d, q⟩)
      unfold cf_110 cf_110_0 cf_110_4 cf_110_7 cf_110_11 cf_110_14 cf_110_18
      simp (disch := omega) only [ev_S, ev_C, ↓reduceIte, Nat.reduceEqDiff, Nat.reduceLeDiff, Nat.reduceAdd, Nat.reduceMul, Nat.reduceSub, reduceCtorEq, l32_0, l32_1, l32_2, l32_3, l32_4, l32_5, l32_6, l32_7, l32_8, l32_9, l32_10, l32_11, l32_12, l32_13, l32_14, l32_15, l32_16, l32_17, l32_18, l32_19, l32_20, l32_21, l32_22, l32_23, l32_24, l32_25, l32_26, l32_27, l32_28, l32_29, l32_33, l32_40, l32_41, l32_44, l32_45, l32_59, l32_61, l32_91, l32_93, l32_123, l32_125, kx, ky, d, e, b1]
    · unfold cf_110 cf_110_0 cf_110_4 cf_110_14 cf_110_18
      simp (disch := omega) only [ev_S, ev_C, ↓reduceIte, Nat.reduceEqDiff, Nat.reduceLeDiff, Nat.reduceAdd, Nat.reduceMul, Nat.reduceSub, reduceCtorEq, l32_0, l32_1, l32_2, l32_3, l32_4, l32_5, l32_6, l32_7, l32_8, l32_9, l32_10, l32_11, l32_12, l32_13, l32_14, l32_15, l32_16, l32_17, l32_18, l32_19, l32_20, l32_21, l32_22, l32_23, l32_24, l32_25, l32_26, l32_27, l32_28, l32_29, l32_33, l32_40, l32_41, l32_44, l32_45, l32_59, l32_61, l32_91, l32_93, l32_123, l32_125, kx, d, b1]
end TDC
end
-- ### 97f.pure.lean.txt
section
/-! ===== PURE: run (59): take: the class ===== -/
theorem lgI_ge {a b : Int64} : (0 ≤ lg_cmp a b) ↔ b.toInt ≤ a.toInt := by
  unfold lg_cmp
  by_cases c : a > b
  · rw [if_pos c]
    have c : b < a := c
    rw [Int64.lt_iff_toInt_lt] at c
    exact ⟨fun _ => Int.le_of_lt c, fun _ => by decide⟩
  · rw [if_neg c]
    have c' : a.toInt ≤ b.toInt := by
      have : ¬ b < a := c
      rw [Int64.lt_iff_toInt_lt] at this
      exact Int.not_lt.mp this
    by_cases d : a = b
    · rw [if_pos d, d]
      exact ⟨fun _ => Int.le_refl _, fun _ => by decide⟩
    · rw [if_neg d]
      refine ⟨fun q => absurd q (by decide), fun q => absurd (Int64.toInt.inj (Int.le_antisymm c' q)) d⟩
theorem tkF_t {neg : Bool} {S W j : Nat} (hS : S ≤ 64) (hW : W ≤ 64) (hj : j ≤ 64) : (tkF neg S W + Int32.ofNat j).toInt = (if neg = true then (S : Int) - W else 0) + j := by
  cases neg with
  | false =>
    rw [tkF_z, i32t (by omega), if_neg (by intro q; cases q)]
    omega
  | true =>
    rw [if_pos rfl]
    exact sub_t hS hW hj
section TKC
variable {N : Nat} {X : Nat → Option zz_C} {t t' : cS} {u u' w : Nat} {x y : Nod} {vx vy v : Int64} {xs : List Nod}
theorem c_tke (hN : 170000 ≤ N) (hh : cHp t u w) (hx : cN (cel t) u vx x) (hy : cN (cel t) u vy y) (wy : wfN y) (dy : y.1 ≤ 4) (hu : u ≤ 162000) (hw : w ≤ 1000) : ∃ t' v, cf_109 N X vx vy t = some (t', .inl (some (.long v))) ∧ cE t t' u v (if kn x = 0 ∧ ¬ kn y = 0 then ansTk y (ivN x) else .inl 3) := by
  have kx := c_kn (N := N) (X := X) hx
  have ky := c_kn (N := N) (X := X) hy
  have lx := kn_le (x := x)
  have ly := kn_le (x := y)
  by_cases c : kn x = 0 ∧ ¬ kn y = 0
  · rw [if_pos c]
    obtain ⟨c0, h0⟩ := c
    have zy := c_sizeN (N := N) (X := X) hh hy
    have ga := c_gathered (N := N) (X := X) hh
    have ex := hx.z c0
    have lo := c_lowOf (N := N) (X := X) (t := t) (k := 0) (a := ivN x)
    rw [← ex] at lo
    rw [c0] at kx
    have hpl : (pts y).length = szN y := pts_len
    have s64 := wf64 wy
    generalize ivN x = z at *
    have hW := wN_le z
    have E1 : cf_109 N X vx vy t = cf_109_27 N X vy (Int32.ofNat (kn y)) z t := by
      generalize kn y = ky' at *
      unfold cf_109 cf_109_0 cf_109_4 cf_109_10 cf_109_13 cf_109_23
      simp (disch := omega) only [ev_S, ev_C, ↓reduceIte, Nat.reduceEqDiff, Nat.reduceLeDiff, Nat.reduceAdd, Nat.reduceMul, Nat.reduceSub, reduceCtorEq, l32_0, l32_1, l32_2, l32_3, l32_4, l32_5, l32_6, l32_7, l32_8, l32_9, l32_10, l32_11, l32_12, l32_13, l32_14, l32_15, l32_16, l32_17, l32_18, l32_19, l32_20, l32_21, l32_22, l32_23, l32_24, l32_25, l32_26, l32_27, l32_28, l32_29, l32_33, l32_40, l32_41, l32_44, l32_45, l32_59, l32_61, l32_91, l32_93, l32_123, l32_125, kx, ky, h0, lo]
    have E2 : cf_109_27 N X vy (Int32.ofNat (kn y)) z t = cf_109_52 N X vy (Int32.ofNat (kn y)) (Int32.toInt64 z) (Int64.ofNat (wN z)) (Int64.ofNat (wN z)) (Int32.ofNat (if kn y = 1 then 64 else 20)) t := by
      unfold cf_109_27
      rw [abs64]
      by_cases d : kn y = 1
      · rw [if_neg (show ¬ ¬ Int32.ofNat (kn y) = 1 from fun q => q (by rw [d]; rfl)), if_pos d]
        rfl
      · rw [if_pos (show ¬ Int32.ofNat (kn y) = 1 from fun q => d (ofNat_inj (by omega) (by omega) q)), if_neg d]
        rfl
    rw [E1, E2]
    have hlim : (if kn y = 1 then 64 else 20) ≤ 64 := by split <;> omega
    have hl := lg_le (a := wN z) (b := if kn y = 1 then 64 else 20) (by omega) (by omega)
    unfold ansTk
    unfold cf_109_52
    rw [i64of32 (show (if kn y = 1 then 64 else 20) < 2147483648 by omega)]
    by_cases d : (if kn y = 1 then 64 else 20) < wN z
    · rw [if_pos d, if_neg (show ¬ lg_cmp (Int64.ofNat (wN z)) (Int64.ofNat (if kn y = 1 then 64 else 20)) ≤ 0 from fun q => absurd (hl.mp q) (by omega))]
      refine ⟨t, _, ?_, cE.tr hh⟩
      have b1 := c_rf (N := N) (X := X) (t := t) (k := Int32.ofNat 2)
      unfold cf_109_57 cf_109_61
      simp (disch := omega) only [ev_S, ev_C, ↓reduceIte, Nat.reduceEqDiff, Nat.reduceLeDiff, Nat.reduceAdd, Nat.reduceMul, Nat.reduceSub, reduceCtorEq, l32_0, l32_1, l32_2, l32_3, l32_4, l32_5, l32_6, l32_7, l32_8, l32_9, l32_10, l32_11, l32_12, l32_13, l32_14, l32_15, l32_16, l32_17, l32_18, l32_19, l32_20, l32_21, l32_22, l32_23, l32_24, l32_25, l32_26, l32_27, l32_28, l32_29, l32_33, l32_40, l32_41, l32_44, l32_45, l32_59, l32_61, l32_91, l32_93, l32_123, l32_125, b1]
    · rw [if_neg d, if_pos (show lg_cmp (Int64.ofNat (wN z)) (Int64.ofNat (if kn y = 1 then 64 else 20)) ≤ 0 from hl.mpr (by omega))]
      have hW6 : wN z ≤ 64 := by omega
      obtain ⟨F0, hF0⟩ : ∃ F0, F0 = tkF (decide (z < 0)) (szN y) (wN z) := ⟨_, rfl⟩
      have E3 : cf_109_62 N X vy (Int32.ofNat (kn y)) (Int32.toInt64 z) (Int64.ofNat (wN z)) t = cf_109_99 N X vy (Int32.ofNat (kn y)) (Int64.ofNat (wN z)) (Int32.ofNat (szN y)) F0 (Int32.ofNat w) t := by
        have E : cf_109_62 N X vy (Int32.ofNat (kn y)) (Int32.toInt64 z) (Int64.ofNat (wN z)) t = cf_109_70 N X vy (Int32.ofNat (kn y)) (Int32.toInt64 z) (Int64.ofNat (wN z)) (Int32.ofNat (szN y)) t := by
          generalize Int64.ofNat (wN z) = WW
          unfold cf_109_62
          simp (disch := omega) only [ev_S, ev_C, ↓reduceIte, Nat.reduceEqDiff, Nat.reduceLeDiff, Nat.reduceAdd, Nat.reduceMul, Nat.reduceSub, reduceCtorEq, l32_0, l32_1, l32_2, l32_3, l32_4, l32_5, l32_6, l32_7, l32_8, l32_9, l32_10, l32_11, l32_12, l32_13, l32_14, l32_15, l32_16, l32_17, l32_18, l32_19, l32_20, l32_21, l32_22, l32_23, l32_24, l32_25, l32_26, l32_27, l32_28, l32_29, l32_33, l32_40, l32_41, l32_44, l32_45, l32_59, l32_61, l32_91, l32_93, l32_123, l32_125, zy]
        have G : ∀ q, cf_109_90 N X vy (Int32.ofNat (kn y)) (Int64.ofNat (wN z)) (Int32.ofNat (szN y)) q t = cf_109_99 N X vy (Int32.ofNat (kn y)) (Int64.ofNat (wN z)) (Int32.ofNat (szN y)) q (Int32.ofNat w) t := fun q => by
          generalize Int64.ofNat (wN z) = WW
          unfold cf_109_90
          simp (disch := omega) only [ev_S, ev_C, ↓reduceIte, Nat.reduceEqDiff, Nat.reduceLeDiff, Nat.reduceAdd, Nat.reduceMul, Nat.reduceSub, reduceCtorEq, l32_0, l32_1, l32_2, l32_3, l32_4, l32_5, l32_6, l32_7, l32_8, l32_9, l32_10, l32_11, l32_12, l32_13, l32_14, l32_15, l32_16, l32_17, l32_18, l32_19, l32_20, l32_21, l32_22, l32_23, l32_24, l32_25, l32_26, l32_27, l32_28, l32_29, l32_33, l32_40, l32_41, l32_44, l32_45, l32_59, l32_61, l32_91, l32_93, l32_123, l32_125, ga]
        rw [E]
        unfold cf_109_70
        by_cases g : z < 0
        · rw [if_neg (fun q => (lg_ge0.mp q) g)]
          unfold cf_109_79
          rw [G, hF0, decide_eq_true g, Int64.toInt32_sub, i64_32, t32 (by omega)]
          rfl
        · rw [if_pos (lg_ge0.mpr g)]
          unfold cf_109_89
          rw [G, hF0, decide_eq_false g]
          rfl
      rw [E3]
      generalize decide (z < 0) = neg at *
      generalize wN z = W at *
      -- what fills
      have E4 : ∃ t1 u1 fv, u ≤ u1 ∧ u1 ≤ u + 1 ∧ cG t t1 u u1 w [] ∧ cN (cel t1) u1 fv (filN y) ∧ cf_109_99 N X vy (Int32.ofNat (kn y)) (Int64.ofNat W) (Int32.ofNat (szN y)) F0 (Int32.ofNat w) t = cf_109_L4 N X N 0 (Int32.ofNat (szN y)) F0 (Int32.ofNat w) fv F0 vy (Int32.ofNat (kn y)) (Int64.ofNat W) t1 := by
        unfold filN
        by_cases k2 : kn y = 2
        · rw [if_pos k2]
          obtain ⟨t1, fv, r1, r2, r3⟩ := c_zeros (N := N) (X := X) (q := 0) hN hh (by omega) (by omega) (by omega)
          refine ⟨t1, u + 1 + 0, fv, by omega, by omega, r2, r3, ?_⟩
          rw [k2]
          generalize Int64.ofNat W = WW
          generalize szN y = sy at *
          unfold cf_109_99 cf_109_107 cf_109_112 cf_109_120
          simp (disch := omega) only [ev_S, ev_C, ↓reduceIte, Nat.reduceEqDiff, Nat.reduceLeDiff, Nat.reduceAdd, Nat.reduceMul, Nat.reduceSub, reduceCtorEq, l32_0, l32_1, l32_2, l32_3, l32_4, l32_5, l32_6, l32_7, l32_8, l32_9, l32_10, l32_11, l32_12, l32_13, l32_14, l32_15, l32_16, l32_17, l32_18, l32_19, l32_20, l32_21, l32_22, l32_23, l32_24, l32_25, l32_26, l32_27, l32_28, l32_29, l32_33, l32_40, l32_41, l32_44, l32_45, l32_59, l32_61, l32_91, l32_93, l32_123, l32_125, r1]
        · rw [if_neg k2]
          refine ⟨t, u, tg (Int32.ofNat 0) (Int32.ofNat 0), Nat.le_refl _, by omega, cG.nil hh, cN_Z, ?_⟩
          have th := c_thing (N := N) (X := X) (t := t) (k := Int32.ofNat 0) (a := Int32.ofNat 0)
          generalize Int64.ofNat W = WW
          generalize szN y = sy at *
          generalize kn y = ky' at *
          unfold cf_109_99 cf_109_115 cf_109_120
          simp (disch := omega) only [ev_S, ev_C, ↓reduceIte, Nat.reduceEqDiff, Nat.reduceLeDiff, Nat.reduceAdd, Nat.reduceMul, Nat.reduceSub, reduceCtorEq, l32_0, l32_1, l32_2, l32_3, l32_4, l32_5, l32_6, l32_7, l32_8, l32_9, l32_10, l32_11, l32_12, l32_13, l32_14, l32_15, l32_16, l32_17, l32_18, l32_19, l32_20, l32_21, l32_22, l32_23, l32_24, l32_25, l32_26, l32_27, l32_28, l32_29, l32_33, l32_40, l32_41, l32_44, l32_45, l32_59, l32_61, l32_91, l32_93, l32_123, l32_125, k2, th]
      obtain ⟨t1, u1, fv, hu1, hu2, G1, hfv, E4⟩ := E4
      rw [E4]
      have hy1 := G1.up hy
      have goal : ∃ t' v, cf_109_L4 N X N 0 (Int32.ofNat (szN y)) F0 (Int32.ofNat w) fv (F0 + Int32.ofNat 0) vy (Int32.ofNat (kn y)) (Int64.ofNat W) t1 = some (t', .inl (some (.long v))) ∧ cE t t' u v (ansM (kn y) ((List.range W).map (tkP y neg W))) := by
        have endc : ∀ j, j ≤ W → ((0 ≤ lg_cmp (Int32.toInt64 (F0 + Int32.ofNat j)) (Int32.toInt64 F0 + Int64.ofNat W)) ↔ W ≤ j) := fun j hj => by
          have t0 := tkF_t (neg := neg) (S := szN y) (W := W) (j := 0) s64 hW6 (by omega)
          have tj := tkF_t (neg := neg) (S := szN y) (W := W) (j := j) s64 hW6 (by omega)
          rw [← hF0] at t0 tj
          rw [show F0 + Int32.ofNat 0 = F0 from Int32.add_zero F0] at t0
          have zb := z64_b F0
          rw [lgI_ge, i64add_t (by omega) (by omega) (by rw [i64t (by omega)]; omega) (by rw [i64t (by omega)]; omega), Int32.toInt_toInt64, Int32.toInt_toInt64, t0, tj, i64t (by omega)]
          omega
        refine lp (fun F j (t' : cS) => cf_109_L4 N X F 0 (Int32.ofNat (szN y)) F0 (Int32.ofNat w) fv (F0 + Int32.ofNat j) vy (Int32.ofNat (kn y)) (Int64.ofNat W) t') W (fun j t' => cG t t' u u1 w ((List.range j).map (tkP y neg W)) ∧ cN (cel t') u1 fv (filN y)) (fun R => ∃ t' v, R = some (t', .inl (some (.long v))) ∧ cE t t' u v (ansM (kn y) ((List.range W).map (tkP y neg W)))) ?_ ?_ W 0 N t1 (Nat.zero_add _) (by omega) ⟨G1, hfv⟩
        · intro F j t2 hj hP _
          left
          obtain ⟨G, hf2⟩ := hP
          have hll : ((List.range j).map (tkP y neg W)).length = j := by rw [List.length_map, List.length_range]
          have es : F0 + Int32.ofNat (j + 1) = F0 + Int32.ofNat j + 1 := by
            rw [hF0]
            exact tkF_s
          have E5 : cf_109_L4 N X (F + 1) 0 (Int32.ofNat (szN y)) F0 (Int32.ofNat w) fv (F0 + Int32.ofNat j) vy (Int32.ofNat (kn y)) (Int64.ofNat W) t2 = cf_109_139 N X (cf_109_L4 N X F) vy (Int32.ofNat (kn y)) (Int64.ofNat W) (Int32.ofNat (szN y)) F0 (Int32.ofNat w) fv (F0 + Int32.ofNat j) t2 := by
            show cf_109_126 N X (cf_109_L4 N X F) vy (Int32.ofNat (kn y)) (Int64.ofNat W) (Int32.ofNat (szN y)) F0 (Int32.ofNat w) fv (F0 + Int32.ofNat j) t2 = _
            unfold cf_109_126
            rw [if_neg (fun q => absurd ((endc j (by omega)).mp q) (by omega))]
          have keep : ∀ {p : Nod} {pv : Int64}, cN (cel t2) u1 pv p → tkP y neg W j = p → ∃ t3, cf_123 N X pv t2 = some (t3, .inl none) ∧ cG t t3 u u1 w ((List.range (j + 1)).map (tkP y neg W)) ∧ cN (cel t3) u1 fv (filN y) := fun {p pv} hp ep => by
            obtain ⟨t3, p1, p2⟩ := cG.put (N := N) (X := X) G (by rw [hll]; omega) hp
            obtain ⟨t4, q1, q2, q3, q4, -⟩ := c_put1 (N := N) (X := X) (v := pv) G.1 (by rw [hll]; omega)
            rw [p1] at q1
            cases q1
            refine ⟨t3, p1, ?_, ?_⟩
            · rw [range_map_s, ep]
              exact p2
            · have ec : cel t3 = cel t2 := by show (kB t3 43).2 = _; rw [q4]
              rw [ec]
              exact hf2
          show ∃ a' : cS, _ ∧ cf_109_L4 N X (F + 1) 0 _ _ _ _ _ _ _ _ t2 = _
          rw [E5, es]
          cases ht : tkI neg (szN y) W j with
          | some k =>
            obtain ⟨k1, k2⟩ := tkI_some s64 hW6 hj ht
            rw [← hF0] at k2
            have ep : tkP y neg W j = (pts y)[k]'(by omega) := by
              unfold tkP
              rw [ht]
              exact getD_e (by omega)
            obtain ⟨v', d1, d2⟩ := c_part (N := N) (X := X) G.c (G.up hy) (i := k) (by omega)
            obtain ⟨t3, p1, p2, p3⟩ := keep d2 ep
            refine ⟨t3, ⟨p2, p3⟩, ?_⟩
            rw [k2]
            have n1 : ¬ szN y ≤ k := by omega
            unfold cf_109_139
            rw [if_neg (i32n (by omega))]
            unfold cf_109_148
            rw [if_neg (fun q => n1 ((i32le (by omega) (by omega)).mp q))]
            unfold cf_109_155 cf_109_165 cf_109_170 cf_109_173
            simp (disch := omega) only [ev_S, ev_C, ↓reduceIte, Nat.reduceEqDiff, Nat.reduceLeDiff, Nat.reduceAdd, Nat.reduceMul, Nat.reduceSub, reduceCtorEq, l32_0, l32_1, l32_2, l32_3, l32_4, l32_5, l32_6, l32_7, l32_8, l32_9, l32_10, l32_11, l32_12, l32_13, l32_14, l32_15, l32_16, l32_17, l32_18, l32_19, l32_20, l32_21, l32_22, l32_23, l32_24, l32_25, l32_26, l32_27, l32_28, l32_29, l32_33, l32_40, l32_41, l32_44, l32_45, l32_59, l32_61, l32_91, l32_93, l32_123, l32_125, d1, p1]
          | none =>
            have hno := tkI_none s64 hW6 hj ht
            rw [← hF0] at hno
            have ep : tkP y neg W j = filN y := by
              unfold tkP
              rw [ht]
            obtain ⟨t3, p1, p2, p3⟩ := keep hf2 ep
            refine ⟨t3, ⟨p2, p3⟩, ?_⟩
            have E6 : cf_109_139 N X (cf_109_L4 N X F) vy (Int32.ofNat (kn y)) (Int64.ofNat W) (Int32.ofNat (szN y)) F0 (Int32.ofNat w) fv (F0 + Int32.ofNat j) t2 = cf_109_168 N X (cf_109_L4 N X F) vy (Int32.ofNat (kn y)) (Int64.ofNat W) (Int32.ofNat (szN y)) F0 (Int32.ofNat w) fv (F0 + Int32.ofNat j) t2 := by
              unfold cf_109_139
              by_cases c1 : F0 + Int32.ofNat j < 0
              · rw [if_pos c1]
              · rw [if_neg c1]
                unfold cf_109_148
                rw [if_pos (hno.resolve_left c1)]
            rw [E6]
            generalize F0 + Int32.ofNat j = e at *
            generalize Int64.ofNat W = WW at *
            generalize szN y = sy at *
            generalize kn y = ky' at *
            unfold cf_109_168 cf_109_170 cf_109_173
            simp (disch := omega) only [ev_S, ev_C, ↓reduceIte, Nat.reduceEqDiff, Nat.reduceLeDiff, Nat.reduceAdd, Nat.reduceMul, Nat.reduceSub, reduceCtorEq, l32_0, l32_1, l32_2, l32_3, l32_4, l32_5, l32_6, l32_7, l32_8, l32_9, l32_10, l32_11, l32_12, l32_13, l32_14, l32_15, l32_16, l32_17, l32_18, l32_19, l32_20, l32_21, l32_22, l32_23, l32_24, l32_25, l32_26, l32_27, l32_28, l32_29, l32_33, l32_40, l32_41, l32_44, l32_45, l32_59, l32_61, l32_91, l32_93, l32_123, l32_125, p1]
        · intro F t2 hP
          obtain ⟨G, -⟩ := hP
          have hll : ((List.range W).map (tkP y neg W)).length = W := by rw [List.length_map, List.length_range]
          have ok := tkP_ok (x := y) h0 wy dy (W := W) (neg := neg)
          obtain ⟨t3, v, b1, b2⟩ := cG.build (N := N) (X := X) (k := kn y) hN G ok.1 ok.2.1 ok.2.2 (by rw [hll]; omega) (by omega) (by omega) (by omega) (by omega)
          refine ⟨t3, v, ?_, b2⟩
          show cf_109_126 N X (cf_109_L4 N X F) vy (Int32.ofNat (kn y)) (Int64.ofNat W) (Int32.ofNat (szN y)) F0 (Int32.ofNat w) fv (F0 + Int32.ofNat W) t2 = _
          unfold cf_109_126
          rw [if_pos ((endc W (Nat.le_refl _)).mpr (Nat.le_refl _))]
          generalize kn y = ky' at *
          unfold cf_109_179 cf_109_190
          simp (disch := omega) only [ev_S, ev_C, ↓reduceIte, Nat.reduceEqDiff, Nat.reduceLeDiff, Nat.reduceAdd, Nat.reduceMul, Nat.reduceSub, reduceCtorEq, l32_0, l32_1, l32_2, l32_3, l32_4, l32_5, l32_6, l32_7, l32_8, l32_9, l32_10, l32_11, l32_12, l32_13, l32_14, l32_15, l32_16, l32_17, l32_18, l32_19, l32_20, l32_21, l32_22, l32_23, l32_24, l32_25, l32_26, l32_27, l32_28, l32_29, l32_33, l32_40, l32_41, l32_44, l32_45, l32_59, l32_61, l32_91, l32_93, l32_123, l32_125, b1]
      rw [show F0 + Int32.ofNat 0 = F0 from Int32.add_zero F0] at goal
      exact goal
  · rw [if_neg c]
    refine ⟨t, _, ?_, cE.tr hh⟩
    have b1 := c_rf (N := N) (X := X) (t := t) (k := Int32.ofNat 3)
    generalize kn x = kx' at *
    generalize kn y = ky' at *
    by_cases d : kx' = 0
    · have e : ky' = 0 := Classical.byContradiction (fun q => c ⟨d, q⟩)
      unfold cf_109 cf_109_0 cf_109_4 cf_109_10 cf_109_13 cf_109_18 cf_109_22
      simp (disch := omega) only [ev_S, ev_C, ↓reduceIte, Nat.reduceEqDiff, Nat.reduceLeDiff, Nat.reduceAdd, Nat.reduceMul, Nat.reduceSub, reduceCtorEq, l32_0, l32_1, l32_2, l32_3, l32_4, l32_5, l32_6, l32_7, l32_8, l32_9, l32_10, l32_11, l32_12, l32_13, l32_14, l32_15, l32_16, l32_17, l32_18, l32_19, l32_20, l32_21, l32_22, l32_23, l32_24, l32_25, l32_26, l32_27, l32_28, l32_29, l32_33, l32_40, l32_41, l32_44, l32_45, l32_59, l32_61, l32_91, l32_93, l32_123, l32_125, kx, ky, d, e, b1]
    · unfold cf_109 cf_109_0 cf_109_4 cf_109_10 cf_109_18 cf_109_22
      simp (disch := omega) only [ev_S, ev_C, ↓reduceIte, Nat.reduceEqDiff, Nat.reduceLeDiff, Nat.reduceAdd, Nat.reduceMul, Nat.reduceSub, reduceCtorEq, l32_0, l32_1, l32_2, l32_3, l32_4, l32_5, l32_6, l32_7, l32_8, l32_9, l32_10, l32_11, l32_12, l32_13, l32_14, l32_15, l32_16, l32_17, l32_18, l32_19, l32_20, l32_21, l32_22, l32_23, l32_24, l32_25, l32_26, l32_27, l32_28, l32_29, l32_33, l32_40, l32_41, l32_44, l32_45, l32_59, l32_61, l32_91, l32_93, l32_123, l32_125, kx, ky, d, b1]
end TKC
end
-- ### 97g.pure.lean.txt
section
/-! ===== PURE: run (60): same: what it asks; the class ===== -/
section SAM
variable {N : Nat} {X : Nat → Option zz_C} {t t' : cS} {u w : Nat} {x y : Nod} {vx vy : Int64}
theorem serN_pre (wx : wfN x) (wy : wfN y) (dx : x.1 ≤ 4) (dy : y.1 ≤ 4) {l l' : List Int32} (h : serN x ++ l = serN y ++ l') : serN x = serN y ∧ l = l' := by
  have d1 : dN x ≤ 4 := Nat.le_trans (dT_le _ _) dx
  have d2 : dN y ≤ 4 := Nat.le_trans (dT_le _ _) dy
  have e1 := cs_ser d1
  have e2 := cs_ser d2
  rw [← e1, ← e2] at h ⊢
  exact ser_pre 4 _ _ l l' (cs_wf d1 wx) (cs_wf d2 wy) h
theorem flatN_pre : ∀ (l l' : List Nod), l.length = l'.length → (∀ z ∈ l, wfN z ∧ z.1 ≤ 4) → (∀ z ∈ l', wfN z ∧ z.1 ≤ 4) → (l.flatMap serN = l'.flatMap serN ↔ ∀ i (hi : i < l.length) (hi' : i < l'.length), serN l[i] = serN l'[i])
  | [], [], _, _, _ => ⟨fun _ i hi => absurd hi (Nat.not_lt_zero _), fun _ => rfl⟩
  | [], _ :: _, h, _, _ => by cases h
  | _ :: _, [], h, _, _ => by cases h
  | a :: l, b :: l', h, h1, h2 => by
    have hl : l.length = l'.length := Nat.succ.inj h
    have ih := flatN_pre l l' hl (fun z hz => h1 z (List.mem_cons_of_mem _ hz)) (fun z hz => h2 z (List.mem_cons_of_mem _ hz))
    have ha := h1 a List.mem_cons_self
    have hb := h2 b List.mem_cons_self
    rw [List.flatMap_cons, List.flatMap_cons]
    constructor
    · intro e i hi hi'
      obtain ⟨e1, e2⟩ := serN_pre ha.1 hb.1 ha.2 hb.2 e
      cases i with
      | zero => exact e1
      | succ i => exact ih.mp e2 i (Nat.lt_of_succ_lt_succ hi) (Nat.lt_of_succ_lt_succ hi')
    · intro e
      have e1 := e 0 (Nat.succ_pos _) (Nat.succ_pos _)
      have e1 : serN a = serN b := e1
      rw [e1, ih.mpr (fun i hi hi' => e (i + 1) (Nat.succ_lt_succ hi) (Nat.succ_lt_succ hi'))]
theorem ser_fl (h0 : ¬ kn x = 0) : ∃ g : List Nod → List Int32, serN x = Int32.ofNat (kn x) :: Int32.ofNat (szN x) :: g (pts x) ∧ g = (if kn x = 1 then fun l => l.map ivN else if kn x = 2 then fun l => l.flatMap fun z => serRow (rvN z) else fun l => l.flatMap serN) := by
  refine ⟨_, ?_, rfl⟩
  have lx := kn_le (x := x)
  show ser x.1 x.2 = _
  rw [vw_ser x]
  show serV (vw x) = Int32.ofNat (knV (vw x)) :: Int32.ofNat (szV (vw x)) :: _
  have h0 : ¬ knV (vw x) = 0 := h0
  show serV (vw x) = Int32.ofNat (knV (vw x)) :: Int32.ofNat (szV (vw x)) :: (if knV (vw x) = 1 then fun l => l.map ivN else if knV (vw x) = 2 then fun l => l.flatMap fun z => serRow (rvN z) else fun l => l.flatMap serN) (ptsV (vw x))
  revert h0
  generalize vw x = V
  intro h0
  obtain z | r | q | ⟨k, l⟩ := V
  · exact absurd rfl h0
  · show 1 :: serRow r = 1 :: Int32.ofNat r.length :: (r.map nZ).map ivN
    rw [List.map_map]
    have e : (ivN ∘ nZ) = id := rfl
    rw [e, List.map_id]
    rfl
  · show 2 :: Int32.ofNat q.length :: q.flatMap serRow = 2 :: Int32.ofNat q.length :: (q.map nR).flatMap fun z => serRow (rvN z)
    rw [List.flatMap_map]
    rfl
  · show 3 :: Int32.ofNat l.length :: l.flatMap (ser k) = 3 :: Int32.ofNat l.length :: (l.map fun y => (⟨k, y⟩ : Nod)).flatMap serN
    rw [List.flatMap_map]
theorem ser_0 (h0 : kn x = 0) : serN x = [0, ivN x] := by
  show ser x.1 x.2 = _
  rw [vw_ser x, kn0 h0]
  rfl
theorem ser_hd : ∃ l, serN x = Int32.ofNat (kn x) :: l := by
  by_cases c : kn x = 0
  · rw [ser_0 c, c]
    exact ⟨_, rfl⟩
  · obtain ⟨g, e, -⟩ := ser_fl c
    exact ⟨_, e⟩
/-- alike: kind, size, and part by part -/
theorem ser_iff (wx : wfN x) (wy : wfN y) (dx : x.1 ≤ 4) (dy : y.1 ≤ 4) (hk : kn x = kn y) (h0 : ¬ kn x = 0) : serN x = serN y ↔ (szN x = szN y ∧ ∀ i (hi : i < (pts x).length) (hi' : i < (pts y).length), serN (pts x)[i] = serN (pts y)[i]) := by
  obtain ⟨g, e1, eg⟩ := ser_fl h0
  obtain ⟨g', e2, eg'⟩ := ser_fl (x := y) (by rw [← hk]; exact h0)
  have lx := kn_le (x := x)
  have s1 := wf64 wx
  have s2 := wf64 wy
  have hgg : g' = g := by rw [eg, eg', hk]
  rw [e1, e2, hgg, ← hk]
  have hpx : (pts x).length = szN x := pts_len
  have hpy : (pts y).length = szN y := pts_len
  have core : szN x = szN y → (g (pts x) = g (pts y) ↔ ∀ i (hi : i < (pts x).length) (hi' : i < (pts y).length), serN (pts x)[i] = serN (pts y)[i]) := fun hs => by
    have hl : (pts x).length = (pts y).length := by omega
    rw [eg]
    by_cases c1 : kn x = 1
    · rw [if_pos c1]
      have z1 : ∀ i (hi : i < (pts x).length), kn (pts x)[i] = 0 := fun i hi => (kd_iff (k := 0) (by omega)).mp ((pts_kd (List.getElem_mem hi)).1 c1)
      have z2 : ∀ i (hi : i < (pts y).length), kn (pts y)[i] = 0 := fun i hi => (kd_iff (k := 0) (by omega)).mp ((pts_kd (List.getElem_mem hi)).1 (by omega))
      constructor
      · intro e i hi hi'
        have e : (pts x).map ivN = (pts y).map ivN := e
        rw [ser_0 (z1 i hi), ser_0 (z2 i hi')]
        have e3 : ((pts x).map ivN)[i]? = ((pts y).map ivN)[i]? := by rw [e]
        rw [List.getElem?_map, List.getElem?_map, List.getElem?_eq_getElem hi, List.getElem?_eq_getElem hi'] at e3
        have e3 : ivN (pts x)[i] = ivN (pts y)[i] := Option.some.inj e3
        rw [e3]
      · intro e
        show (pts x).map ivN = (pts y).map ivN
        apply List.ext_getElem
        · rw [List.length_map, List.length_map, hl]
        · intro i h1 h2
          rw [List.length_map] at h1 h2
          rw [List.getElem_map, List.getElem_map]
          have e3 := e i h1 h2
          rw [ser_0 (z1 i h1), ser_0 (z2 i h2)] at e3
          exact (List.cons.inj (List.cons.inj e3).2).1
    · rw [if_neg c1]
      by_cases c2 : kn x = 2
      · rw [if_pos c2]
        have f : ∀ z : Nod, kn z = 1 → serN z = 1 :: serRow (rvN z) := fun z hz => by
          show ser z.1 z.2 = _
          rw [vw_ser z, kn1 hz]
          rfl
        have ex : pts x = (tvN x).map nR := by
          show ptsV (vw x) = _
          rw [kn2' c2]
          rfl
        have ey : pts y = (tvN y).map nR := by
          show ptsV (vw y) = _
          rw [kn2' (by omega)]
          rfl
        have t1 := tv_wf c2 wx
        have t2 := tv_wf (x := y) (by omega) wy
        have hlt : (tvN x).length = (tvN y).length := by
          rw [ex, ey, List.length_map, List.length_map] at hl
          exact hl
        have e0 : ∀ q : List (List Int32), (q.map nR).flatMap (fun z => serRow (rvN z)) = q.flatMap serRow := fun q => by
          rw [List.flatMap_map]
          rfl
        constructor
        · intro e i hi hi'
          have e : (pts x).flatMap (fun z => serRow (rvN z)) = (pts y).flatMap (fun z => serRow (rvN z)) := e
          rw [ex, ey, e0, e0] at e
          have e2 := (tab_pre (l := []) (l' := []) hlt t1.2.2 t2.2.2 (by rw [List.append_nil, List.append_nil]; exact e)).1
          simp only [ex, ey, e2]
        · intro e
          show (pts x).flatMap (fun z => serRow (rvN z)) = (pts y).flatMap (fun z => serRow (rvN z))
          rw [ex, ey, e0, e0]
          congr 1
          apply List.ext_getElem hlt
          intro i h1 h2
          have e3 := e i (by rw [ex, List.length_map]; exact h1) (by rw [ey, List.length_map]; exact h2)
          simp only [ex, ey, List.getElem_map] at e3
          rw [f _ rfl, f _ rfl] at e3
          exact (List.cons.inj (List.cons.inj e3).2).2
      · rw [if_neg c2]
        exact flatN_pre (pts x) (pts y) hl (fun z hz => ⟨wf_pts wx z hz, Nat.le_trans (pts_lv z hz) dx⟩) (fun z hz => ⟨wf_pts wy z hz, Nat.le_trans (pts_lv z hz) dy⟩)
  constructor
  · intro e
    have e := (List.cons.inj e).2
    have hs : szN x = szN y := ofNat_inj (by omega) (by omega) (List.cons.inj e).1
    exact ⟨hs, (core hs).mp (List.cons.inj e).2⟩
  · rintro ⟨hs, e⟩
    rw [hs, (core hs).mpr e]
end SAM
end
-- ### 97h.pure.lean.txt
section
/-! ===== PURE: run (61): same, the class ===== -/
section SAC
variable {N : Nat} {X : Nat → Option zz_C} {t t' : cS} {u w : Nat} {x y : Nod} {vx vy : Int64}
theorem lg_e {a b : Int64} : (lg_cmp a b = Int32.ofNat 0) = (a = b) := by
  apply propext
  constructor
  · intro h
    unfold lg_cmp at h
    by_cases g : a > b
    · rw [if_pos g] at h
      exact absurd h (by decide)
    · rw [if_neg g] at h
      by_cases e : a = b
      · exact e
      · rw [if_neg e] at h
        exact absurd h (by decide)
  · rintro rfl
    unfold lg_cmp
    rw [if_neg (by rw [gt_iff_lt]; exact Int64.lt_irrefl), if_pos rfl]
    rfl
def sb1 (b : Prop) [Decidable b] : Int32 := if b then Int32.ofNat 1 else Int32.ofNat 0
theorem sb1_iff {p q : Prop} [Decidable p] [Decidable q] (h : p ↔ q) : sb1 p = sb1 q := by
  unfold sb1
  by_cases c : p
  · rw [if_pos c, if_pos (h.mp c)]
  · rw [if_neg c, if_neg (fun d => c (h.mpr d))]
abbrev alP (R : Nat → List Value → cS → kO) (dp : Nat) (x : Nod) : Prop := ∀ (y : Nod) (t : cS) (u w : Nat) (vx vy : Int64), wfN x → wfN y → x.1 ≤ 4 → y.1 ≤ 4 → cHp t u w → cN (cel t) u vx x → cN (cel t) u vy y → R 133 [.long vx, .long vy, .int (Int32.ofNat dp)] t = some (t, .inl (some (.int (sb1 (serN x = serN y)))))
theorem c_alikeStep {rk : Nat → List Value → cS → kO} {dp : Nat} (hN0 : 170000 ≤ N) (hdp : dp + hN x ≤ 6) (hc : ∀ z ∈ pts x, alP rk (dp + 1) z) (wx : wfN x) (wy : wfN y) (dx : x.1 ≤ 4) (dy : y.1 ≤ 4) (hh : cHp t u w) (hx : cN (cel t) u vx x) (hy : cN (cel t) u vy y) : cf_133 N X rk vx vy (Int32.ofNat dp) t = some (t, .inl (some (.int (sb1 (serN x = serN y))))) := by
  have z1 := c_sizeN (N := N) (X := X) hh hx
  have z2 := c_sizeN (N := N) (X := X) hh hy
  have k1 := c_kn (N := N) (X := X) hx
  have k2 := c_kn (N := N) (X := X) hy
  have lx := kn_le (x := x)
  have ly := kn_le (x := y)
  have s1 := wf64 wx
  have s2 := wf64 wy
  by_cases ck : kn x = kn y
  · by_cases cs : szN x = szN y
    · by_cases c0 : kn x = 0
      · have c0' : kn y = 0 := by omega
        have hx' := cN_iff.mp hx
        have hy' := cN_iff.mp hy
        rw [kn0 c0] at hx'
        rw [kn0 c0'] at hy'
        have hx' : vx = tg 0 (ivN x) := hx'
        have hy' : vy = tg 0 (ivN y) := hy'
        have e1 : cf_133 N X rk vx vy (Int32.ofNat dp) t = cf_133_44 N X rk vx vy t := by
          unfold cf_133 cf_133_0 cf_133_5 cf_133_11 cf_133_15 cf_133_18 cf_133_25 cf_133_30 cf_133_34
          rw [← ck] at k2
          rw [← cs] at z2
          rw [c0] at k1 k2
          generalize szN x = sx at *
          simp (disch := omega) only [ev_S, ev_C, ↓reduceIte, Nat.reduceEqDiff, Nat.reduceLeDiff, Nat.reduceAdd, Nat.reduceMul, Nat.reduceSub, reduceCtorEq, l32_0, l32_1, l32_2, l32_3, l32_4, l32_5, l32_6, l32_7, l32_8, l32_9, l32_10, l32_11, l32_12, l32_13, l32_14, l32_15, l32_16, l32_17, l32_18, l32_19, l32_20, l32_21, l32_22, l32_23, l32_24, l32_25, l32_26, l32_27, l32_28, l32_29, l32_33, l32_40, l32_41, l32_44, l32_45, l32_59, l32_61, l32_91, l32_93, l32_123, l32_125, z1, z2, k1, k2]
        rw [e1]
        have hi : (serN x = serN y) ↔ lg_cmp vx vy = Int32.ofNat 0 := by
          rw [lg_e, ser_0 c0, ser_0 c0', hx', hy']
          constructor
          · intro e
            rw [(List.cons.inj (List.cons.inj e).2).1]
          · intro e
            rw [(tg_inj e).2]
        rw [sb1_iff hi]
        unfold cf_133_44 sb1
        by_cases q : lg_cmp vx vy = Int32.ofNat 0
        · have q' : ¬ ¬ lg_cmp vx vy = 0 := fun f => f q
          rw [if_neg q', if_pos q]
          rfl
        · have q' : ¬ lg_cmp vx vy = 0 := q
          rw [if_pos q', if_neg q]
          rfl
      · have hp := h_pos (x := x) (fun e => c0 ((kd_iff (k := 0) (by omega)).mp e))
        have e1 : cf_133 N X rk vx vy (Int32.ofNat dp) t = cf_133_L6 N X rk N 0 vx vy (Int32.ofNat dp) (Int32.ofNat (szN x)) (Int32.ofNat 1) (Int32.ofNat 0) t := by
          unfold cf_133 cf_133_0 cf_133_5 cf_133_11 cf_133_15 cf_133_18 cf_133_25 cf_133_30 cf_133_34 cf_133_37 cf_133_56
          rw [← ck] at k2
          rw [← cs] at z2
          have d6 : dp ≤ 6 := by omega
          generalize kn x = kx at *
          generalize szN x = sx at *
          simp (disch := omega) only [ev_S, ev_C, ↓reduceIte, Nat.reduceEqDiff, Nat.reduceLeDiff, Nat.reduceAdd, Nat.reduceMul, Nat.reduceSub, reduceCtorEq, l32_0, l32_1, l32_2, l32_3, l32_4, l32_5, l32_6, l32_7, l32_8, l32_9, l32_10, l32_11, l32_12, l32_13, l32_14, l32_15, l32_16, l32_17, l32_18, l32_19, l32_20, l32_21, l32_22, l32_23, l32_24, l32_25, l32_26, l32_27, l32_28, l32_29, l32_33, l32_40, l32_41, l32_44, l32_45, l32_59, l32_61, l32_91, l32_93, l32_123, l32_125, z1, z2, k1, k2, d6, c0]
        rw [e1]
        have hi := ser_iff wx wy dx dy ck c0
        have hpx : (pts x).length = szN x := pts_len
        have hpy : (pts y).length = szN y := pts_len
        have hd5 : dp + 1 ≤ 6 := by omega
        refine lp (fun F i (b : Int32) => cf_133_L6 N X rk F 0 vx vy (Int32.ofNat dp) (Int32.ofNat (szN x)) b (Int32.ofNat i) t) (szN x) (fun i b => (b = Int32.ofNat 1 ∧ ∀ j (hj : j < (pts x).length) (hj' : j < (pts y).length), j < i → serN (pts x)[j] = serN (pts y)[j]) ∨ (b = Int32.ofNat 0 ∧ ¬ serN x = serN y)) (fun R => R = some (t, .inl (some (.int (sb1 (serN x = serN y)))))) ?_ ?_ (szN x) 0 N (Int32.ofNat 1) (Nat.zero_add _) (by omega) (Or.inl ⟨rfl, fun j _ _ hj => absurd hj (Nat.not_lt_zero _)⟩)
        · intro F i b hi2 hP _
          have n1 : ¬ szN x ≤ i := by omega
          rcases hP with ⟨rfl, hP⟩ | ⟨rfl, hP⟩
          · left
            have h1 : i < (pts x).length := by omega
            have h2 : i < (pts y).length := by omega
            obtain ⟨v1, p1, p2⟩ := c_part (N := N) (X := X) hh hx h1
            obtain ⟨v2, q1, q2⟩ := c_part (N := N) (X := X) hh hy h2
            have mx := List.getElem_mem h1
            have my := List.getElem_mem h2
            have r1 := hc _ mx _ t u w v1 v2 (wf_pts wx _ mx) (wf_pts wy _ my) (Nat.le_trans (pts_lv _ mx) dx) (Nat.le_trans (pts_lv _ my) dy) hh p2 q2
            refine ⟨sb1 (serN (pts x)[i] = serN (pts y)[i]), ?_, ?_⟩
            · by_cases c : serN (pts x)[i] = serN (pts y)[i]
              · left
                refine ⟨if_pos c, fun j hj hj' hji => ?_⟩
                by_cases e : j = i
                · subst e
                  exact c
                · exact hP j hj hj' (by omega)
              · right
                exact ⟨if_neg c, fun e => c ((hi.mp e).2 i h1 h2)⟩
            · show cf_133_62 N X rk (cf_133_L6 N X rk F) vx vy (Int32.ofNat dp) (Int32.ofNat (szN x)) (Int32.ofNat 1) (Int32.ofNat i) t = _
              generalize sb1 (serN (pts x)[i] = serN (pts y)[i]) = bb at *
              unfold cf_133_62 cf_133_69 cf_133_74 cf_133_82 cf_133_89 cf_133_96
              generalize szN x = sx at *
              simp (disch := omega) only [ev_S, ev_C, ↓reduceIte, Nat.reduceEqDiff, Nat.reduceLeDiff, Nat.reduceAdd, Nat.reduceMul, Nat.reduceSub, reduceCtorEq, l32_0, l32_1, l32_2, l32_3, l32_4, l32_5, l32_6, l32_7, l32_8, l32_9, l32_10, l32_11, l32_12, l32_13, l32_14, l32_15, l32_16, l32_17, l32_18, l32_19, l32_20, l32_21, l32_22, l32_23, l32_24, l32_25, l32_26, l32_27, l32_28, l32_29, l32_33, l32_40, l32_41, l32_44, l32_45, l32_59, l32_61, l32_91, l32_93, l32_123, l32_125, n1, p1, q1, r1]
          · right
            show cf_133_62 N X rk (cf_133_L6 N X rk F) vx vy (Int32.ofNat dp) (Int32.ofNat (szN x)) (Int32.ofNat 0) (Int32.ofNat i) t = _
            rw [show sb1 (serN x = serN y) = Int32.ofNat 0 from if_neg hP]
            unfold cf_133_62 cf_133_69 cf_133_104
            generalize szN x = sx at *
            simp (disch := omega) only [ev_S, ev_C, ↓reduceIte, Nat.reduceEqDiff, Nat.reduceLeDiff, Nat.reduceAdd, Nat.reduceMul, Nat.reduceSub, reduceCtorEq, l32_0, l32_1, l32_2, l32_3, l32_4, l32_5, l32_6, l32_7, l32_8, l32_9, l32_10, l32_11, l32_12, l32_13, l32_14, l32_15, l32_16, l32_17, l32_18, l32_19, l32_20, l32_21, l32_22, l32_23, l32_24, l32_25, l32_26, l32_27, l32_28, l32_29, l32_33, l32_40, l32_41, l32_44, l32_45, l32_59, l32_61, l32_91, l32_93, l32_123, l32_125, n1]
        · intro F b hP
          have hb : b = sb1 (serN x = serN y) := by
            rcases hP with ⟨rfl, hP⟩ | ⟨rfl, hP⟩
            · exact (if_pos (hi.mpr ⟨cs, fun j hj hj' => hP j hj hj' (by omega)⟩)).symm
            · exact (if_neg hP).symm
          have hb2 : zz_reti (some .boolean) b = true := by
            rcases hP with ⟨rfl, -⟩ | ⟨rfl, -⟩ <;> rfl
          rw [← hb]
          show cf_133_62 N X rk (cf_133_L6 N X rk F) vx vy (Int32.ofNat dp) (Int32.ofNat (szN x)) b (Int32.ofNat (szN x)) t = _
          unfold cf_133_62 cf_133_104
          generalize szN x = sx at *
          simp (disch := omega) only [ev_S, ev_C, ↓reduceIte, Nat.reduceEqDiff, Nat.reduceLeDiff, Nat.reduceAdd, Nat.reduceMul, Nat.reduceSub, reduceCtorEq, l32_0, l32_1, l32_2, l32_3, l32_4, l32_5, l32_6, l32_7, l32_8, l32_9, l32_10, l32_11, l32_12, l32_13, l32_14, l32_15, l32_16, l32_17, l32_18, l32_19, l32_20, l32_21, l32_22, l32_23, l32_24, l32_25, l32_26, l32_27, l32_28, l32_29, l32_33, l32_40, l32_41, l32_44, l32_45, l32_59, l32_61, l32_91, l32_93, l32_123, l32_125, hb2]
    · have hne : ¬ serN x = serN y := fun e => by
        by_cases c0 : kn x = 0
        · have e1 : szN x = 0 := by
            show szV (vw x) = 0
            rw [kn0 c0]
            rfl
          have e2 : szN y = 0 := by
            show szV (vw y) = 0
            rw [kn0 (x := y) (by omega)]
            rfl
          omega
        · exact cs ((ser_iff wx wy dx dy ck c0).mp e).1
      rw [show sb1 (serN x = serN y) = Int32.ofNat 0 from if_neg hne]
      unfold cf_133 cf_133_0 cf_133_5 cf_133_11 cf_133_15 cf_133_18 cf_133_25 cf_133_28
      rw [← ck] at k2
      generalize kn x = kx at *
      generalize szN x = sx at *
      generalize szN y = sy at *
      simp (disch := omega) only [ev_S, ev_C, ↓reduceIte, Nat.reduceEqDiff, Nat.reduceLeDiff, Nat.reduceAdd, Nat.reduceMul, Nat.reduceSub, reduceCtorEq, l32_0, l32_1, l32_2, l32_3, l32_4, l32_5, l32_6, l32_7, l32_8, l32_9, l32_10, l32_11, l32_12, l32_13, l32_14, l32_15, l32_16, l32_17, l32_18, l32_19, l32_20, l32_21, l32_22, l32_23, l32_24, l32_25, l32_26, l32_27, l32_28, l32_29, l32_33, l32_40, l32_41, l32_44, l32_45, l32_59, l32_61, l32_91, l32_93, l32_123, l32_125, z1, z2, k1, k2, cs]
  · have hne : ¬ serN x = serN y := fun e => by
      obtain ⟨l1, e1⟩ := ser_hd (x := x)
      obtain ⟨l2, e2⟩ := ser_hd (x := y)
      rw [e1, e2] at e
      exact ck (ofNat_inj (by omega) (by omega) (List.cons.inj e).1)
    rw [show sb1 (serN x = serN y) = Int32.ofNat 0 from if_neg hne]
    unfold cf_133 cf_133_0 cf_133_5 cf_133_11 cf_133_15 cf_133_28
    generalize kn x = kx at *
    generalize kn y = ky at *
    generalize szN x = sx at *
    simp (disch := omega) only [ev_S, ev_C, ↓reduceIte, Nat.reduceEqDiff, Nat.reduceLeDiff, Nat.reduceAdd, Nat.reduceMul, Nat.reduceSub, reduceCtorEq, l32_0, l32_1, l32_2, l32_3, l32_4, l32_5, l32_6, l32_7, l32_8, l32_9, l32_10, l32_11, l32_12, l32_13, l32_14, l32_15, l32_16, l32_17, l32_18, l32_19, l32_20, l32_21, l32_22, l32_23, l32_24, l32_25, l32_26, l32_27, l32_28, l32_29, l32_33, l32_40, l32_41, l32_44, l32_45, l32_59, l32_61, l32_91, l32_93, l32_123, l32_125, z1, k1, k2, ck]
theorem c_alikeAll (hN0 : 170000 ≤ N) : ∀ (m e dp : Nat) (x : Nod), hN x ≤ m → dp + hN x ≤ 6 → alP (cf_S3 N X (m + 1 + e)) dp x := by
  intro m
  induction m with
  | zero =>
    intro e dp x hm hd y t u w vx vy wx wy dx dy hh hx hy
    rw [show 0 + 1 + e = (0 + e) + 1 by omega]
    exact c_alikeStep hN0 hd (fun z hz => by
      have := h_pts hz
      omega) wx wy dx dy hh hx hy
  | succ m ih =>
    intro e dp x hm hd y t u w vx vy wx wy dx dy hh hx hy
    rw [show m + 1 + 1 + e = (m + 1 + e) + 1 by omega]
    exact c_alikeStep hN0 hd (fun z hz => by
      have := h_pts hz
      exact ih e (dp + 1) z (by omega) (by omega)) wx wy dx dy hh hx hy
/-- alike -/
theorem c_alk (hN0 : 170000 ≤ N) (wx : wfN x) (wy : wfN y) (dx : x.1 ≤ 4) (dy : y.1 ≤ 4) (hh : cHp t u w) (hx : cN (cel t) u vx x) (hy : cN (cel t) u vy y) : cf_132 N X vx vy t = some (t, .inl (some (.int (sb1 (serN x = serN y))))) := by
  have hl : hN x ≤ x.1 + 2 := hT_le x.1 x.2
  have a1 := c_alikeAll (N := N) (X := X) hN0 6 5 0 x (by omega) (by omega) y t u w vx vy wx wy dx dy hh hx hy
  have a1 : cf_S3 N X 12 133 [.long vx, .long vy, .int (Int32.ofNat 0)] t = _ := a1
  have hb2 : zz_reti (some .boolean) (sb1 (serN x = serN y)) = true := by
    unfold sb1
    by_cases c : serN x = serN y
    · rw [if_pos c]; rfl
    · rw [if_neg c]; rfl
  generalize sb1 (serN x = serN y) = b at *
  unfold cf_132 cf_132_0 cf_132_7
  simp (disch := omega) only [ev_S, ev_C, ↓reduceIte, Nat.reduceEqDiff, Nat.reduceLeDiff, Nat.reduceAdd, Nat.reduceMul, Nat.reduceSub, reduceCtorEq, l32_0, l32_1, l32_2, l32_3, l32_4, l32_5, l32_6, l32_7, l32_8, l32_9, l32_10, l32_11, l32_12, l32_13, l32_14, l32_15, l32_16, l32_17, l32_18, l32_19, l32_20, l32_21, l32_22, l32_23, l32_24, l32_25, l32_26, l32_27, l32_28, l32_29, l32_33, l32_40, l32_41, l32_44, l32_45, l32_59, l32_61, l32_91, l32_93, l32_123, l32_125, a1, hb2]
end SAC
end
-- ### 97i.pure.lean.txt
section
/-! ===== PURE: run (62): same, the reference ===== -/
section SAR
variable {N : Nat} {s s' : mS} {n f m : Nat} {x y : Nod} {ys : List Nod} {xv yv : Int32}
theorem fD.v (h : fD s s') : vfr n f s s' ∧ s'.1 62 = s.1 62 ∧ s'.1 66 = s.1 66 ∧ s'.1 67 = s.1 67 ∧ s'.1 48 = s.1 48 := by
  refine ⟨⟨⟨fun q r => h.1 q (fun z => r ?_), h.2.1, fun q r => h.2.2.1 q (fun z => r ?_), h.2.2.2⟩, fun y hy => ?_, fun y hy => ?_⟩, h.1 _ (by omega), h.1 _ (by omega), h.1 _ (by omega), h.1 _ (by omega)⟩
  · unfold vfI
    omega
  · unfold vfA
    omega
  · rw [h.2.2.1 49 (by omega), h.2.2.1 50 (by omega)]
    exact ⟨rfl, rfl⟩
  · rw [h.2.2.1 47 (by omega)]
theorem rG.nilD (h48 : s.1 48 = Int32.ofNat f) (h : fD s s') : rG s (mI s' 51 (Int32.ofNat n)) n f f [] := by
  obtain ⟨v1, v2, v3, v4, v5⟩ := fD.v (n := n) (f := f) h
  exact ⟨⟨rfl, v5.trans h48, Nat.le_refl _⟩, fun i hi => absurd hi (Nat.not_lt_zero _), vfr.set (by unfold vfI; omega) v1, v2, v3, v4⟩
theorem sam_end (H : rA s n f m ys) (h : fD s s') : (∃ s2, mf_347_236 N (Int32.ofNat n) s' = some (s2, none) ∧ rE s s2 n f m (.inr (nZ (Int32.ofNat 0)))) ∧ (∃ s2, mf_347_232 N (Int32.ofNat n) s' = some (s2, none) ∧ rE s s2 n f m (.inr (nZ (Int32.ofNat 1)))) := by
  have H' := H
  obtain ⟨-, H2, H3, H4, H5, H6, H7, H8, H9, H10⟩ := H'
  have G := rG.nilD (n := n) H2 h
  constructor
  · obtain ⟨s2, p1, p2⟩ := rG.pushZ (N := N) G (by show n + 0 < 9000; omega) (Int32.ofNat 0)
    refine ⟨s2, ?_, rG.int H p2 rfl⟩
    unfold mf_347_236 mf_347_237 mf_347_256 mf_347_257 mf_347_260
    simp (disch := omega) only [ev_S, ev_P, ↓reduceIte, Nat.reduceEqDiff, Nat.reduceLeDiff, Nat.reduceAdd, Nat.reduceMul, Nat.reduceSub, reduceCtorEq, l32_0, l32_1, l32_2, l32_3, l32_4, l32_5, l32_6, l32_7, l32_8, l32_9, l32_10, l32_11, l32_12, l32_13, l32_14, l32_15, l32_16, l32_17, l32_18, l32_19, l32_20, l32_21, l32_22, l32_23, l32_24, l32_25, l32_26, l32_27, l32_28, l32_29, l32_33, l32_40, l32_41, l32_44, l32_45, l32_59, l32_61, l32_91, l32_93, l32_123, l32_125, p1]
  · obtain ⟨s2, p1, p2⟩ := rG.pushZ (N := N) G (by show n + 0 < 9000; omega) (Int32.ofNat 1)
    refine ⟨s2, ?_, rG.int H p2 rfl⟩
    unfold mf_347_232 mf_347_237 mf_347_252 mf_347_257 mf_347_260
    simp (disch := omega) only [ev_S, ev_P, ↓reduceIte, Nat.reduceEqDiff, Nat.reduceLeDiff, Nat.reduceAdd, Nat.reduceMul, Nat.reduceSub, reduceCtorEq, l32_0, l32_1, l32_2, l32_3, l32_4, l32_5, l32_6, l32_7, l32_8, l32_9, l32_10, l32_11, l32_12, l32_13, l32_14, l32_15, l32_16, l32_17, l32_18, l32_19, l32_20, l32_21, l32_22, l32_23, l32_24, l32_25, l32_26, l32_27, l32_28, l32_29, l32_33, l32_40, l32_41, l32_44, l32_45, l32_59, l32_61, l32_91, l32_93, l32_123, l32_125, p1]
/-- same -/
theorem r_same (hN : 170000 ≤ N) (H : rA s n f m ys) (hx : rvl (s.2.2.1 47) f (s.2.2.1 49 n) xv x) (hy : rvl (s.2.2.1 47) f (s.2.2.1 49 (n + 1)) yv y) (wx : wfN x) (wy : wfN y) (dx : x.1 ≤ 4) (dy : y.1 ≤ 4) : ∃ s', mf_347_186 N xv yv (Int32.ofNat n) s = some (s', none) ∧ rE s s' n f m (.inr (nZ (sb1 (serN x = serN y)))) := by
  have H' := H
  obtain ⟨-, H2, H3, H4, H5, H6, H7, H8, H9, H10⟩ := H'
  have g1 : ¬ 9000 ≤ n := by omega
  have g2 : ¬ 9000 ≤ n + 1 := by omega
  have lx := kn_le (x := x)
  have ly := kn_le (x := y)
  have D := sam_end (N := N) H (mfr.rf (s := s))
  have hne : ¬ kn x = kn y → ¬ serN x = serN y := fun ck e => by
    obtain ⟨l1, e1⟩ := ser_hd (x := x)
    obtain ⟨l2, e2⟩ := ser_hd (x := y)
    rw [e1, e2] at e
    exact ck (ofNat_inj (by omega) (by omega) (List.cons.inj e).1)
  by_cases c0 : kn x = 0
  · obtain ⟨k1, v1⟩ := hx.iv c0
    by_cases d0 : kn y = 0
    · obtain ⟨k2, v2⟩ := hy.iv d0
      by_cases e : ivN x = ivN y
      · rw [show sb1 (serN x = serN y) = Int32.ofNat 1 from if_pos (by rw [ser_0 c0, ser_0 d0, e])]
        obtain ⟨s2, p1, p2⟩ := D.2
        refine ⟨s2, ?_, p2⟩
        have q : xv = yv := by rw [v1, v2, e]
        unfold mf_347_186 mf_347_205 mf_347_215 mf_347_220
        simp (disch := omega) only [ev_S, ev_P, ↓reduceIte, Nat.reduceEqDiff, Nat.reduceLeDiff, Nat.reduceAdd, Nat.reduceMul, Nat.reduceSub, reduceCtorEq, l32_0, l32_1, l32_2, l32_3, l32_4, l32_5, l32_6, l32_7, l32_8, l32_9, l32_10, l32_11, l32_12, l32_13, l32_14, l32_15, l32_16, l32_17, l32_18, l32_19, l32_20, l32_21, l32_22, l32_23, l32_24, l32_25, l32_26, l32_27, l32_28, l32_29, l32_33, l32_40, l32_41, l32_44, l32_45, l32_59, l32_61, l32_91, l32_93, l32_123, l32_125, g1, g2, k1, k2, p1, q]
      · rw [show sb1 (serN x = serN y) = Int32.ofNat 0 from if_neg (fun q => by
          rw [ser_0 c0, ser_0 d0] at q
          exact e (List.cons.inj (List.cons.inj q).2).1)]
        obtain ⟨s2, p1, p2⟩ := D.1
        refine ⟨s2, ?_, p2⟩
        have q : ¬ xv = yv := by rw [v1, v2]; exact e
        unfold mf_347_186 mf_347_205 mf_347_215
        simp (disch := omega) only [ev_S, ev_P, ↓reduceIte, Nat.reduceEqDiff, Nat.reduceLeDiff, Nat.reduceAdd, Nat.reduceMul, Nat.reduceSub, reduceCtorEq, l32_0, l32_1, l32_2, l32_3, l32_4, l32_5, l32_6, l32_7, l32_8, l32_9, l32_10, l32_11, l32_12, l32_13, l32_14, l32_15, l32_16, l32_17, l32_18, l32_19, l32_20, l32_21, l32_22, l32_23, l32_24, l32_25, l32_26, l32_27, l32_28, l32_29, l32_33, l32_40, l32_41, l32_44, l32_45, l32_59, l32_61, l32_91, l32_93, l32_123, l32_125, g1, g2, k1, k2, p1, q]
    · obtain ⟨k2, -⟩ := hy.th d0
      rw [show sb1 (serN x = serN y) = Int32.ofNat 0 from if_neg (hne (by omega))]
      obtain ⟨s2, p1, p2⟩ := D.1
      refine ⟨s2, ?_, p2⟩
      unfold mf_347_186
      simp (disch := omega) only [ev_S, ev_P, ↓reduceIte, Nat.reduceEqDiff, Nat.reduceLeDiff, Nat.reduceAdd, Nat.reduceMul, Nat.reduceSub, reduceCtorEq, l32_0, l32_1, l32_2, l32_3, l32_4, l32_5, l32_6, l32_7, l32_8, l32_9, l32_10, l32_11, l32_12, l32_13, l32_14, l32_15, l32_16, l32_17, l32_18, l32_19, l32_20, l32_21, l32_22, l32_23, l32_24, l32_25, l32_26, l32_27, l32_28, l32_29, l32_33, l32_40, l32_41, l32_44, l32_45, l32_59, l32_61, l32_91, l32_93, l32_123, l32_125, g1, g2, k1, k2, p1]
  · obtain ⟨k1, a, v1, La⟩ := hx.th c0
    by_cases d0 : kn y = 0
    · obtain ⟨k2, -⟩ := hy.iv d0
      rw [show sb1 (serN x = serN y) = Int32.ofNat 0 from if_neg (hne (by omega))]
      obtain ⟨s2, p1, p2⟩ := D.1
      refine ⟨s2, ?_, p2⟩
      unfold mf_347_186
      simp (disch := omega) only [ev_S, ev_P, ↓reduceIte, Nat.reduceEqDiff, Nat.reduceLeDiff, Nat.reduceAdd, Nat.reduceMul, Nat.reduceSub, reduceCtorEq, l32_0, l32_1, l32_2, l32_3, l32_4, l32_5, l32_6, l32_7, l32_8, l32_9, l32_10, l32_11, l32_12, l32_13, l32_14, l32_15, l32_16, l32_17, l32_18, l32_19, l32_20, l32_21, l32_22, l32_23, l32_24, l32_25, l32_26, l32_27, l32_28, l32_29, l32_33, l32_40, l32_41, l32_44, l32_45, l32_59, l32_61, l32_91, l32_93, l32_123, l32_125, g1, g2, k1, k2, p1]
    · obtain ⟨k2, b, v2, Lb⟩ := hy.th d0
      have d1 : dN x ≤ 4 := Nat.le_trans (dT_le _ _) dx
      have d2 : dN y ≤ 4 := Nat.le_trans (dT_le _ _) dy
      obtain ⟨s1, q1, q2⟩ := r_areSame (N := N) (s := s) hN (R := Rf f) (R' := Rf f) (fun y (hy : y < f ∧ _) => by have := hy.1; omega) (fun y (hy : y < f ∧ _) => by have := hy.1; omega) (cs_lay d1 La) (cs_lay d2 Lb) (cs_wf d1 wx) (cs_wf d2 wy)
      rw [cs_ser d1, cs_ser d2] at q1
      have D := sam_end (N := N) H q2
      rw [v1, v2]
      by_cases e : serN x = serN y
      · rw [if_pos e] at q1
        have q1 : mf_346 N (Int32.ofNat a) (Int32.ofNat b) s = some (s1, some (.int (Int32.ofNat 1))) := q1
        rw [show sb1 (serN x = serN y) = Int32.ofNat 1 from if_pos e]
        obtain ⟨s2, p1, p2⟩ := D.2
        refine ⟨s2, ?_, p2⟩
        unfold mf_347_186 mf_347_205 mf_347_223 mf_347_229
        simp (disch := omega) only [ev_S, ev_P, ↓reduceIte, Nat.reduceEqDiff, Nat.reduceLeDiff, Nat.reduceAdd, Nat.reduceMul, Nat.reduceSub, reduceCtorEq, l32_0, l32_1, l32_2, l32_3, l32_4, l32_5, l32_6, l32_7, l32_8, l32_9, l32_10, l32_11, l32_12, l32_13, l32_14, l32_15, l32_16, l32_17, l32_18, l32_19, l32_20, l32_21, l32_22, l32_23, l32_24, l32_25, l32_26, l32_27, l32_28, l32_29, l32_33, l32_40, l32_41, l32_44, l32_45, l32_59, l32_61, l32_91, l32_93, l32_123, l32_125, g1, g2, k1, k2, p1, q1]
      · rw [if_neg e] at q1
        have q1 : mf_346 N (Int32.ofNat a) (Int32.ofNat b) s = some (s1, some (.int (Int32.ofNat 0))) := q1
        rw [show sb1 (serN x = serN y) = Int32.ofNat 0 from if_neg e]
        obtain ⟨s2, p1, p2⟩ := D.1
        refine ⟨s2, ?_, p2⟩
        unfold mf_347_186 mf_347_205 mf_347_223 mf_347_229
        simp (disch := omega) only [ev_S, ev_P, ↓reduceIte, Nat.reduceEqDiff, Nat.reduceLeDiff, Nat.reduceAdd, Nat.reduceMul, Nat.reduceSub, reduceCtorEq, l32_0, l32_1, l32_2, l32_3, l32_4, l32_5, l32_6, l32_7, l32_8, l32_9, l32_10, l32_11, l32_12, l32_13, l32_14, l32_15, l32_16, l32_17, l32_18, l32_19, l32_20, l32_21, l32_22, l32_23, l32_24, l32_25, l32_26, l32_27, l32_28, l32_29, l32_33, l32_40, l32_41, l32_44, l32_45, l32_59, l32_61, l32_91, l32_93, l32_123, l32_125, g1, g2, k1, k2, p1, q1]
end SAR
end
-- ### 97j.pure.lean.txt
section
/-! ===== PURE: run (63): size, kind, same: what the class's one and two do ===== -/
section WRD
variable {N : Nat} {X : Nat → Option zz_C} {t t' : cS} {u w : Nat} {x y : Nod} {vx vy : Int64}
theorem cE.z (hh : cHp t u w) (z : Int32) : cE t t u (tg 0 z) (.inr (nZ z)) := cE.in hh (cN_iff.mpr rfl) trivial (Nat.zero_le _)
theorem c_sizW (hh : cHp t u w) (hx : cN (cel t) u vx x) (wx : wfN x) : ∃ t' v, cf_88_128 N X vx t = some (t', .inl (some (.long v))) ∧ cE t t' u v (if kn x = 0 then .inl 3 else .inr (nZ (Int32.ofNat (szN x)))) := by
  have kx := c_kn (N := N) (X := X) hx
  have lx := kn_le (x := x)
  have zz := c_sizeN (N := N) (X := X) hh hx
  have s1 := wf64 wx
  by_cases c : kn x = 0
  · rw [if_pos c]
    refine ⟨t, _, ?_, cE.tr hh (k := 3)⟩
    have b1 := c_rf (N := N) (X := X) (t := t) (k := Int32.ofNat 3)
    rw [c] at kx
    unfold cf_88_128 cf_88_132 cf_88_135 cf_88_139 cf_88_154
    simp (disch := omega) only [ev_S, ev_C, ↓reduceIte, Nat.reduceEqDiff, Nat.reduceLeDiff, Nat.reduceAdd, Nat.reduceMul, Nat.reduceSub, reduceCtorEq, l32_0, l32_1, l32_2, l32_3, l32_4, l32_5, l32_6, l32_7, l32_8, l32_9, l32_10, l32_11, l32_12, l32_13, l32_14, l32_15, l32_16, l32_17, l32_18, l32_19, l32_20, l32_21, l32_22, l32_23, l32_24, l32_25, l32_26, l32_27, l32_28, l32_29, l32_33, l32_40, l32_41, l32_44, l32_45, l32_59, l32_61, l32_91, l32_93, l32_123, l32_125, kx, b1]
  · rw [if_neg c]
    refine ⟨t, _, ?_, cE.z hh (Int32.ofNat (szN x))⟩
    have b1 : cf_253 N X (Int32.ofNat 0) (Int32.ofNat (szN x)) t = some (t, .inl (some (.long (tg 0 (Int32.ofNat (szN x)))))) := rfl
    generalize kn x = kx' at *
    generalize szN x = sx at *
    generalize tg 0 (Int32.ofNat sx) = V at *
    unfold cf_88_128 cf_88_132 cf_88_142 cf_88_151 cf_88_154
    simp (disch := omega) only [ev_S, ev_C, ↓reduceIte, Nat.reduceEqDiff, Nat.reduceLeDiff, Nat.reduceAdd, Nat.reduceMul, Nat.reduceSub, reduceCtorEq, l32_0, l32_1, l32_2, l32_3, l32_4, l32_5, l32_6, l32_7, l32_8, l32_9, l32_10, l32_11, l32_12, l32_13, l32_14, l32_15, l32_16, l32_17, l32_18, l32_19, l32_20, l32_21, l32_22, l32_23, l32_24, l32_25, l32_26, l32_27, l32_28, l32_29, l32_33, l32_40, l32_41, l32_44, l32_45, l32_59, l32_61, l32_91, l32_93, l32_123, l32_125, kx, zz, b1, c]
theorem c_kndW (hh : cHp t u w) (hx : cN (cel t) u vx x) : ∃ t' v, cf_88_161 N X vx t = some (t', .inl (some (.long v))) ∧ cE t t' u v (.inr (nZ (Int32.ofNat (kn x)))) := by
  have kx := c_kn (N := N) (X := X) hx
  have lx := kn_le (x := x)
  refine ⟨t, _, ?_, cE.z hh (Int32.ofNat (kn x))⟩
  have b1 : cf_253 N X (Int32.ofNat 0) (Int32.ofNat (kn x)) t = some (t, .inl (some (.long (tg 0 (Int32.ofNat (kn x)))))) := rfl
  generalize kn x = kx' at *
  generalize tg 0 (Int32.ofNat kx') = V at *
  unfold cf_88_161 cf_88_166 cf_88_169
  simp (disch := omega) only [ev_S, ev_C, ↓reduceIte, Nat.reduceEqDiff, Nat.reduceLeDiff, Nat.reduceAdd, Nat.reduceMul, Nat.reduceSub, reduceCtorEq, l32_0, l32_1, l32_2, l32_3, l32_4, l32_5, l32_6, l32_7, l32_8, l32_9, l32_10, l32_11, l32_12, l32_13, l32_14, l32_15, l32_16, l32_17, l32_18, l32_19, l32_20, l32_21, l32_22, l32_23, l32_24, l32_25, l32_26, l32_27, l32_28, l32_29, l32_33, l32_40, l32_41, l32_44, l32_45, l32_59, l32_61, l32_91, l32_93, l32_123, l32_125, kx, b1]
theorem c_samW (hN0 : 170000 ≤ N) (hh : cHp t u w) (hx : cN (cel t) u vx x) (hy : cN (cel t) u vy y) (wx : wfN x) (wy : wfN y) (dx : x.1 ≤ 4) (dy : y.1 ≤ 4) : ∃ t' v, cf_89_136 N X vx vy t = some (t', .inl (some (.long v))) ∧ cE t t' u v (.inr (nZ (sb1 (serN x = serN y)))) := by
  have a1 := c_alk (N := N) (X := X) hN0 wx wy dx dy hh hx hy
  have b1 : ∀ z : Int32, cf_253 N X (Int32.ofNat 0) z t = some (t, .inl (some (.long (tg 0 z)))) := fun _ => rfl
  refine ⟨t, _, ?_, cE.z hh _⟩
  by_cases e : serN x = serN y
  · rw [show sb1 (serN x = serN y) = Int32.ofNat 1 from if_pos e] at a1 ⊢
    have b1 := b1 (Int32.ofNat 1)
    generalize tg 0 (Int32.ofNat 1) = V at *
    unfold cf_89_136 cf_89_147 cf_89_150 cf_89_155 cf_89_158
    simp (disch := omega) only [ev_S, ev_C, ↓reduceIte, Nat.reduceEqDiff, Nat.reduceLeDiff, Nat.reduceAdd, Nat.reduceMul, Nat.reduceSub, reduceCtorEq, l32_0, l32_1, l32_2, l32_3, l32_4, l32_5, l32_6, l32_7, l32_8, l32_9, l32_10, l32_11, l32_12, l32_13, l32_14, l32_15, l32_16, l32_17, l32_18, l32_19, l32_20, l32_21, l32_22, l32_23, l32_24, l32_25, l32_26, l32_27, l32_28, l32_29, l32_33, l32_40, l32_41, l32_44, l32_45, l32_59, l32_61, l32_91, l32_93, l32_123, l32_125, a1, b1]
  · rw [show sb1 (serN x = serN y) = Int32.ofNat 0 from if_neg e] at a1 ⊢
    have b1 := b1 (Int32.ofNat 0)
    generalize tg 0 (Int32.ofNat 0) = V at *
    unfold cf_89_136 cf_89_147 cf_89_154 cf_89_155 cf_89_158
    simp (disch := omega) only [ev_S, ev_C, ↓reduceIte, Nat.reduceEqDiff, Nat.reduceLeDiff, Nat.reduceAdd, Nat.reduceMul, Nat.reduceSub, reduceCtorEq, l32_0, l32_1, l32_2, l32_3, l32_4, l32_5, l32_6, l32_7, l32_8, l32_9, l32_10, l32_11, l32_12, l32_13, l32_14, l32_15, l32_16, l32_17, l32_18, l32_19, l32_20, l32_21, l32_22, l32_23, l32_24, l32_25, l32_26, l32_27, l32_28, l32_29, l32_33, l32_40, l32_41, l32_44, l32_45, l32_59, l32_61, l32_91, l32_93, l32_123, l32_125, a1, b1]
end WRD
end
-- ### 97k.pure.lean.txt
section
/-! ===== PURE: run (64): the class's one and two, by the word ===== -/
section DSP
variable {N : Nat} {X : Nat → Option zz_C} {t : cS} {a k : Nat} {v v' : Int64} {y : Int32}
theorem c_ord (h2 : hgi X [] a 20 3 = some y) : cf_356 N X a t = some (t, .inl (some (.int y))) := by
  unfold cf_356 cf_356_0
  rw [h2]
  rfl
theorem c_one7 (ha : ¬ a < zz_out) (h1 : hcl X [] a 20 = true) (h2 : hgi X [] a 20 3 = some y) : cf_88 N X a v t = cf_88_7 N X a v y t := by
  have e := c_ord (N := N) (t := t) h2
  unfold cf_88 cf_88_0
  rw [if_pos ha, if_pos h1]
  simp (disch := omega) only [ev_S, ev_C, ↓reduceIte, Nat.reduceEqDiff, Nat.reduceLeDiff, Nat.reduceAdd, Nat.reduceMul, Nat.reduceSub, reduceCtorEq, l32_0, l32_1, l32_2, l32_3, l32_4, l32_5, l32_6, l32_7, l32_8, l32_9, l32_10, l32_11, l32_12, l32_13, l32_14, l32_15, l32_16, l32_17, l32_18, l32_19, l32_20, l32_21, l32_22, l32_23, l32_24, l32_25, l32_26, l32_27, l32_28, l32_29, l32_33, l32_40, l32_41, l32_44, l32_45, l32_59, l32_61, l32_91, l32_93, l32_123, l32_125, e]
theorem c_two7 (ha : ¬ a < zz_out) (h1 : hcl X [] a 20 = true) (h2 : hgi X [] a 20 3 = some y) : cf_89 N X a v v' t = cf_89_7 N X v v' y t := by
  have e := c_ord (N := N) (t := t) h2
  unfold cf_89 cf_89_0
  rw [if_pos ha, if_pos h1]
  simp (disch := omega) only [ev_S, ev_C, ↓reduceIte, Nat.reduceEqDiff, Nat.reduceLeDiff, Nat.reduceAdd, Nat.reduceMul, Nat.reduceSub, reduceCtorEq, l32_0, l32_1, l32_2, l32_3, l32_4, l32_5, l32_6, l32_7, l32_8, l32_9, l32_10, l32_11, l32_12, l32_13, l32_14, l32_15, l32_16, l32_17, l32_18, l32_19, l32_20, l32_21, l32_22, l32_23, l32_24, l32_25, l32_26, l32_27, l32_28, l32_29, l32_33, l32_40, l32_41, l32_44, l32_45, l32_59, l32_61, l32_91, l32_93, l32_123, l32_125, e]
theorem c_one_8 (ha : ¬ a < zz_out) (h1 : hcl X [] a 20 = true) (h2 : hgi X [] a 20 3 = some y) (h3 : hai X [] (zz_out + 43) y = some (Int32.ofNat 8)) : cf_88 N X a v t = cf_88_92 N X v t := by
  rw [c_one7 ha h1 h2]
  unfold cf_88_7
  rw [h3]
  rfl
theorem c_one_9 (ha : ¬ a < zz_out) (h1 : hcl X [] a 20 = true) (h2 : hgi X [] a 20 3 = some y) (h3 : hai X [] (zz_out + 43) y = some (Int32.ofNat 9)) : cf_88 N X a v t = cf_88_102 N X v t := by
  rw [c_one7 ha h1 h2]
  unfold cf_88_7
  rw [h3]
  rfl
theorem c_one_10 (ha : ¬ a < zz_out) (h1 : hcl X [] a 20 = true) (h2 : hgi X [] a 20 3 = some y) (h3 : hai X [] (zz_out + 43) y = some (Int32.ofNat 10)) : cf_88 N X a v t = cf_88_112 N X v t := by
  rw [c_one7 ha h1 h2]
  unfold cf_88_7
  rw [h3]
  rfl
theorem c_one_11 (ha : ¬ a < zz_out) (h1 : hcl X [] a 20 = true) (h2 : hgi X [] a 20 3 = some y) (h3 : hai X [] (zz_out + 43) y = some (Int32.ofNat 11)) : cf_88 N X a v t = cf_88_122 N X v t := by
  rw [c_one7 ha h1 h2]
  unfold cf_88_7
  rw [h3]
  rfl
theorem c_one_12 (ha : ¬ a < zz_out) (h1 : hcl X [] a 20 = true) (h2 : hgi X [] a 20 3 = some y) (h3 : hai X [] (zz_out + 43) y = some (Int32.ofNat 12)) : cf_88 N X a v t = cf_88_128 N X v t := by
  rw [c_one7 ha h1 h2]
  unfold cf_88_7
  rw [h3]
  rfl
theorem c_one_13 (ha : ¬ a < zz_out) (h1 : hcl X [] a 20 = true) (h2 : hgi X [] a 20 3 = some y) (h3 : hai X [] (zz_out + 43) y = some (Int32.ofNat 13)) : cf_88 N X a v t = cf_88_155 N X v t := by
  rw [c_one7 ha h1 h2]
  unfold cf_88_7
  rw [h3]
  rfl
theorem c_one_14 (ha : ¬ a < zz_out) (h1 : hcl X [] a 20 = true) (h2 : hgi X [] a 20 3 = some y) (h3 : hai X [] (zz_out + 43) y = some (Int32.ofNat 14)) : cf_88 N X a v t = cf_88_161 N X v t := by
  rw [c_one7 ha h1 h2]
  unfold cf_88_7
  rw [h3]
  rfl
theorem c_one_15 (ha : ¬ a < zz_out) (h1 : hcl X [] a 20 = true) (h2 : hgi X [] a 20 3 = some y) (h3 : hai X [] (zz_out + 43) y = some (Int32.ofNat 15)) : cf_88 N X a v t = cf_88_170 N X a v t := by
  rw [c_one7 ha h1 h2]
  unfold cf_88_7
  rw [h3]
  rfl
theorem c_one_16 (ha : ¬ a < zz_out) (h1 : hcl X [] a 20 = true) (h2 : hgi X [] a 20 3 = some y) (h3 : hai X [] (zz_out + 43) y = some (Int32.ofNat 16)) : cf_88 N X a v t = cf_88_170 N X a v t := by
  rw [c_one7 ha h1 h2]
  unfold cf_88_7
  rw [h3]
  rfl
theorem c_one_17 (ha : ¬ a < zz_out) (h1 : hcl X [] a 20 = true) (h2 : hgi X [] a 20 3 = some y) (h3 : hai X [] (zz_out + 43) y = some (Int32.ofNat 17)) : cf_88 N X a v t = cf_88_170 N X a v t := by
  rw [c_one7 ha h1 h2]
  unfold cf_88_7
  rw [h3]
  rfl
theorem c_one_18 (ha : ¬ a < zz_out) (h1 : hcl X [] a 20 = true) (h2 : hgi X [] a 20 3 = some y) (h3 : hai X [] (zz_out + 43) y = some (Int32.ofNat 18)) : cf_88 N X a v t = cf_88_177 N X a v t := by
  rw [c_one7 ha h1 h2]
  unfold cf_88_7
  rw [h3]
  rfl
theorem c_one_19 (ha : ¬ a < zz_out) (h1 : hcl X [] a 20 = true) (h2 : hgi X [] a 20 3 = some y) (h3 : hai X [] (zz_out + 43) y = some (Int32.ofNat 19)) : cf_88 N X a v t = cf_88_177 N X a v t := by
  rw [c_one7 ha h1 h2]
  unfold cf_88_7
  rw [h3]
  rfl
theorem c_one_20 (ha : ¬ a < zz_out) (h1 : hcl X [] a 20 = true) (h2 : hgi X [] a 20 3 = some y) (h3 : hai X [] (zz_out + 43) y = some (Int32.ofNat 20)) : cf_88 N X a v t = cf_88_184 N X v t := by
  rw [c_one7 ha h1 h2]
  unfold cf_88_7
  rw [h3]
  rfl
theorem c_one_21 (ha : ¬ a < zz_out) (h1 : hcl X [] a 20 = true) (h2 : hgi X [] a 20 3 = some y) (h3 : hai X [] (zz_out + 43) y = some (Int32.ofNat 21)) : cf_88 N X a v t = cf_88_190 N X v t := by
  rw [c_one7 ha h1 h2]
  unfold cf_88_7
  rw [h3]
  rfl
theorem c_one_22 (ha : ¬ a < zz_out) (h1 : hcl X [] a 20 = true) (h2 : hgi X [] a 20 3 = some y) (h3 : hai X [] (zz_out + 43) y = some (Int32.ofNat 22)) : cf_88 N X a v t = cf_88_196 N X v t := by
  rw [c_one7 ha h1 h2]
  unfold cf_88_7
  rw [h3]
  rfl
theorem c_one_23 (ha : ¬ a < zz_out) (h1 : hcl X [] a 20 = true) (h2 : hgi X [] a 20 3 = some y) (h3 : hai X [] (zz_out + 43) y = some (Int32.ofNat 23)) : cf_88 N X a v t = cf_88_202 N X v t := by
  rw [c_one7 ha h1 h2]
  unfold cf_88_7
  rw [h3]
  rfl
theorem c_one_24 (ha : ¬ a < zz_out) (h1 : hcl X [] a 20 = true) (h2 : hgi X [] a 20 3 = some y) (h3 : hai X [] (zz_out + 43) y = some (Int32.ofNat 24)) : cf_88 N X a v t = cf_88_208 N X v t := by
  rw [c_one7 ha h1 h2]
  unfold cf_88_7
  rw [h3]
  rfl
theorem c_two_25 (ha : ¬ a < zz_out) (h1 : hcl X [] a 20 = true) (h2 : hgi X [] a 20 3 = some y) (h3 : hai X [] (zz_out + 43) y = some (Int32.ofNat 25)) : cf_89 N X a v v' t = cf_89_64 N X v v' t := by
  rw [c_two7 ha h1 h2]
  unfold cf_89_7
  rw [h3]
  rfl
theorem c_two_26 (ha : ¬ a < zz_out) (h1 : hcl X [] a 20 = true) (h2 : hgi X [] a 20 3 = some y) (h3 : hai X [] (zz_out + 43) y = some (Int32.ofNat 26)) : cf_89 N X a v v' t = cf_89_72 N X v v' t := by
  rw [c_two7 ha h1 h2]
  unfold cf_89_7
  rw [h3]
  rfl
theorem c_two_27 (ha : ¬ a < zz_out) (h1 : hcl X [] a 20 = true) (h2 : hgi X [] a 20 3 = some y) (h3 : hai X [] (zz_out + 43) y = some (Int32.ofNat 27)) : cf_89 N X a v v' t = cf_89_80 N X v v' t := by
  rw [c_two7 ha h1 h2]
  unfold cf_89_7
  rw [h3]
  rfl
theorem c_two_28 (ha : ¬ a < zz_out) (h1 : hcl X [] a 20 = true) (h2 : hgi X [] a 20 3 = some y) (h3 : hai X [] (zz_out + 43) y = some (Int32.ofNat 28)) : cf_89 N X a v v' t = cf_89_88 N X v v' t := by
  rw [c_two7 ha h1 h2]
  unfold cf_89_7
  rw [h3]
  rfl
theorem c_two_29 (ha : ¬ a < zz_out) (h1 : hcl X [] a 20 = true) (h2 : hgi X [] a 20 3 = some y) (h3 : hai X [] (zz_out + 43) y = some (Int32.ofNat 29)) : cf_89 N X a v v' t = cf_89_96 N X v v' t := by
  rw [c_two7 ha h1 h2]
  unfold cf_89_7
  rw [h3]
  rfl
theorem c_two_30 (ha : ¬ a < zz_out) (h1 : hcl X [] a 20 = true) (h2 : hgi X [] a 20 3 = some y) (h3 : hai X [] (zz_out + 43) y = some (Int32.ofNat 30)) : cf_89 N X a v v' t = cf_89_104 N X v v' t := by
  rw [c_two7 ha h1 h2]
  unfold cf_89_7
  rw [h3]
  rfl
theorem c_two_31 (ha : ¬ a < zz_out) (h1 : hcl X [] a 20 = true) (h2 : hgi X [] a 20 3 = some y) (h3 : hai X [] (zz_out + 43) y = some (Int32.ofNat 31)) : cf_89 N X a v v' t = cf_89_112 N X v v' t := by
  rw [c_two7 ha h1 h2]
  unfold cf_89_7
  rw [h3]
  rfl
theorem c_two_32 (ha : ¬ a < zz_out) (h1 : hcl X [] a 20 = true) (h2 : hgi X [] a 20 3 = some y) (h3 : hai X [] (zz_out + 43) y = some (Int32.ofNat 32)) : cf_89 N X a v v' t = cf_89_120 N X v v' t := by
  rw [c_two7 ha h1 h2]
  unfold cf_89_7
  rw [h3]
  rfl
theorem c_two_33 (ha : ¬ a < zz_out) (h1 : hcl X [] a 20 = true) (h2 : hgi X [] a 20 3 = some y) (h3 : hai X [] (zz_out + 43) y = some (Int32.ofNat 33)) : cf_89 N X a v v' t = cf_89_128 N X v v' t := by
  rw [c_two7 ha h1 h2]
  unfold cf_89_7
  rw [h3]
  rfl
theorem c_two_34 (ha : ¬ a < zz_out) (h1 : hcl X [] a 20 = true) (h2 : hgi X [] a 20 3 = some y) (h3 : hai X [] (zz_out + 43) y = some (Int32.ofNat 34)) : cf_89 N X a v v' t = cf_89_136 N X v v' t := by
  rw [c_two7 ha h1 h2]
  unfold cf_89_7
  rw [h3]
  rfl
end DSP
end
-- ### 97l.pure.lean.txt
section
/-! ===== PURE: run (65): does a value suit a built-in (the reference) ===== -/
section SUI
variable {N : Nat} {s : mS} {b i k f : Nat}
/-- does a value of kind k suit as the i-th of built-in b, whose first is of kind f -/
def suB (b i k f : Nat) : Bool :=
  if b = 5 ∨ b = 8 ∨ b = 27 then true
  else if i = 0 then
    if b < 4 ∨ b = 20 ∨ b = 21 then k == 0
    else if b = 4 ∨ b = 14 ∨ b = 18 ∨ b = 22 ∨ b = 24 ∨ b = 26 then k == 1
    else if b = 6 ∨ b = 15 ∨ b = 23 then 0 < k
    else if b = 7 ∨ b = 17 ∨ b = 25 then k == 2
    else if b = 9 then k < 3
    else if 10 ≤ b ∧ b ≤ 13 then k == 1 || k == 2
    else b != 16 || 1 < k
  else if b = 3 ∨ b = 25 then k == 0
  else if b = 20 ∨ b = 21 then 0 < k
  else if b = 24 then k < 2
  else if b = 19 then f == 3 || k == 3 || (if f = 2 then decide (0 < k) else if k = 2 then f == 1 else true)
  else k == 1
def suI (c : Bool) : Int32 := if c then Int32.ofNat 1 else Int32.ofNat 0
theorem r_suit5 {i' k' f' : Int32} : mf_327 N (Int32.ofNat 5) i' k' f' s = some (s, some (.int (Int32.ofNat 1))) := rfl
theorem r_suit0 (hk : k < 4) (hf : f < 4) (hb : b < 28) (hi : i = 0 ∨ i = 1) : mf_327 N (Int32.ofNat b) (Int32.ofNat i) (Int32.ofNat k) (Int32.ofNat f) s = some (s, some (.int (suI (suB b i k f)))) := by
  have h1 : b = 0 ∨ b = 1 ∨ b = 2 ∨ b = 3 ∨ b = 4 ∨ b = 5 ∨ b = 6 ∨ b = 7 ∨ b = 8 ∨ b = 9 ∨ b = 10 ∨ b = 11 ∨ b = 12 ∨ b = 13 ∨ b = 14 ∨ b = 15 ∨ b = 16 ∨ b = 17 ∨ b = 18 ∨ b = 19 ∨ b = 20 ∨ b = 21 ∨ b = 22 ∨ b = 23 ∨ b = 24 ∨ b = 25 ∨ b = 26 ∨ b = 27 := by omega
  have h2 : k = 0 ∨ k = 1 ∨ k = 2 ∨ k = 3 := by omega
  have h3 : f = 0 ∨ f = 1 ∨ f = 2 ∨ f = 3 := by omega
  rcases hi with rfl | rfl <;> rcases h2 with rfl | rfl | rfl | rfl <;> rcases h3 with rfl | rfl | rfl | rfl <;> rcases h1 with rfl | rfl | rfl | rfl | rfl | rfl | rfl | rfl | rfl | rfl | rfl | rfl | rfl | rfl | rfl | rfl | rfl | rfl | rfl | rfl | rfl | rfl | rfl | rfl | rfl | rfl | rfl | rfl <;> rfl
end SUI
end
