/-! ===== PURE: run (54): turn, both ===== -/
section TRR
variable {N : Nat} {X : Nat → Option zz_C} {s s' : mS} {t t' : cS} {n f f' m a i j u w : Nat} {x : Nod} {xs ys : List Nod} {vx : Int64}
theorem r_most {p q : Nat} (hp : p < 2147483648) (hq : q < 2147483648) : mf_326 N (Int32.ofNat p) (Int32.ofNat q) s = some (s, some (.int (Int32.ofNat (Nat.max p q)))) := by
  by_cases c : p ≤ q
  · rw [show Nat.max p q = q from Nat.max_eq_right c]
    unfold mf_326 mf_326_0 mf_326_9 mf_326_10
    simp (disch := omega) only [ev_S, ev_P, ↓reduceIte, Nat.reduceEqDiff, Nat.reduceLeDiff, Nat.reduceAdd, Nat.reduceMul, Nat.reduceSub, reduceCtorEq, l32_0, l32_1, l32_2, l32_3, l32_4, l32_5, l32_6, l32_7, l32_8, l32_9, l32_10, l32_11, l32_12, l32_13, l32_14, l32_15, l32_16, l32_17, l32_18, l32_19, l32_20, l32_21, l32_22, l32_23, l32_24, l32_25, l32_26, l32_27, l32_28, l32_29, l32_33, l32_40, l32_41, l32_44, l32_45, l32_59, l32_61, l32_91, l32_93, l32_123, l32_125, c]
  · rw [show Nat.max p q = p from Nat.max_eq_left (by omega)]
    unfold mf_326 mf_326_0 mf_326_5 mf_326_10
    simp (disch := omega) only [ev_S, ev_P, ↓reduceIte, Nat.reduceEqDiff, Nat.reduceLeDiff, Nat.reduceAdd, Nat.reduceMul, Nat.reduceSub, reduceCtorEq, l32_0, l32_1, l32_2, l32_3, l32_4, l32_5, l32_6, l32_7, l32_8, l32_9, l32_10, l32_11, l32_12, l32_13, l32_14, l32_15, l32_16, l32_17, l32_18, l32_19, l32_20, l32_21, l32_22, l32_23, l32_24, l32_25, l32_26, l32_27, l32_28, l32_29, l32_33, l32_40, l32_41, l32_44, l32_45, l32_59, l32_61, l32_91, l32_93, l32_123, l32_125, c]
theorem r_turn (hN : 170000 ≤ N) (H : rA s n f m ys) (La : LayN (s.2.2.1 47) (Rf f) a x) (c2 : kn x = 2) (wx : wfN x) : ∃ s', mf_335 N (Int32.ofNat 17) (Int32.ofNat a) (Int32.ofNat n) s = some (s', none) ∧ rE s s' n f m (ansTr (tvN x)) := by
  have H' := H
  obtain ⟨-, H2, H3, H4, H5, H6, H7, H8, H9, H10⟩ := H'
  have G0 : rG s (mI s 51 (Int32.ofNat n)) n f f [] := rG.nil H2
  obtain ⟨s1, hs1⟩ : ∃ s1, s1 = mI s 51 (Int32.ofNat n) := ⟨_, rfl⟩
  rw [← hs1] at G0
  have T := fun k => rG.trb (N := N) H G0 (by omega) k
  have kd : s.2.2.1 47 a = Int32.ofNat 2 := by rw [(LayN_iff.mp La).2.kd.1, ← c2]; exact kd_kn
  have hla := (LayN.lt La)
  have tw := tv_wf c2 wx
  have esz := kn2_sz c2
  have SZ := fun s2 fx xs (G : rG s s2 n f fx xs) => rG.size (N := N) G La (by omega)
  rw [esz] at SZ
  have PT := fun i (hi : i < (tvN x).length) s2 fx xs (G : rG s s2 n f fx xs) => rG.partT (N := N) G La (by omega) c2 hi
  generalize tvN x = q at *
  have hw64 : ∀ i, wid (q.take i) ≤ 64 := fun i => wid_le (fun r hr => tw.2.2 r (List.mem_of_mem_take hr))
  have E1 : mf_335 N (Int32.ofNat 17) (Int32.ofNat a) (Int32.ofNat n) s = mf_335_L14 N N 0 (Int32.ofNat a) (Int32.ofNat n) (Int32.ofNat 2) (Int32.ofNat 0) (Int32.ofNat 0) (Int32.ofNat 0) s1 := by
    rw [hs1]
    unfold mf_335 mf_335_0 mf_335_230 mf_335_239
    simp (disch := omega) only [ev_S, ev_P, ↓reduceIte, Nat.reduceEqDiff, Nat.reduceLeDiff, Nat.reduceAdd, Nat.reduceMul, Nat.reduceSub, reduceCtorEq, l32_0, l32_1, l32_2, l32_3, l32_4, l32_5, l32_6, l32_7, l32_8, l32_9, l32_10, l32_11, l32_12, l32_13, l32_14, l32_15, l32_16, l32_17, l32_18, l32_19, l32_20, l32_21, l32_22, l32_23, l32_24, l32_25, l32_26, l32_27, l32_28, l32_29, l32_33, l32_40, l32_41, l32_44, l32_45, l32_59, l32_61, l32_91, l32_93, l32_123, l32_125, kd]
  have E2 : mf_335_L14 N N 0 (Int32.ofNat a) (Int32.ofNat n) (Int32.ofNat 2) (Int32.ofNat 0) (Int32.ofNat 0) (Int32.ofNat 0) s1 = mf_335_357 N (Int32.ofNat a) (Int32.ofNat n) (Int32.ofNat 2) (Int32.ofNat (wid q)) (Int32.ofNat 0) s1 := by
    refine lp (fun F i (c : Nat) => mf_335_L14 N F 0 (Int32.ofNat a) (Int32.ofNat n) (Int32.ofNat 2) (Int32.ofNat c) (Int32.ofNat 0) (Int32.ofNat i) s1) q.length (fun i c => c = wid (q.take i)) (fun R => R = mf_335_357 N (Int32.ofNat a) (Int32.ofNat n) (Int32.ofNat 2) (Int32.ofNat (wid q)) (Int32.ofNat 0) s1) ?_ ?_ q.length 0 N 0 (Nat.zero_add _) (by omega) rfl
    · intro F i c hi hP _
      left
      have zz := SZ s1 _ _ G0
      have n1 : ¬ q.length ≤ i := by omega
      obtain ⟨c', d1, d2⟩ := PT i hi s1 _ _ G0
      have z3 := G0.size (N := N) d2 (by omega)
      have z3 : mf_77 N (Int32.ofNat c') s1 = some (s1, some (.int (Int32.ofNat q[i].length))) := z3
      have hq6 := tw.2.2 _ (List.getElem_mem hi)
      have hc6 := hw64 i
      rw [← hP] at hc6
      have mm := r_most (N := N) (s := s1) (p := c) (q := q[i].length) (by omega) (by omega)
      refine ⟨Nat.max c q[i].length, by rw [wid_s hi, hP], ?_⟩
      show mf_335_242 N (mf_335_L14 N F) (Int32.ofNat a) (Int32.ofNat n) (Int32.ofNat 2) (Int32.ofNat c) (Int32.ofNat 0) (Int32.ofNat i) s1 = _
      unfold mf_335_242 mf_335_249 mf_335_252 mf_335_262 mf_335_265 mf_335_268
      simp (disch := omega) only [ev_S, ev_P, ↓reduceIte, Nat.reduceEqDiff, Nat.reduceLeDiff, Nat.reduceAdd, Nat.reduceMul, Nat.reduceSub, reduceCtorEq, l32_0, l32_1, l32_2, l32_3, l32_4, l32_5, l32_6, l32_7, l32_8, l32_9, l32_10, l32_11, l32_12, l32_13, l32_14, l32_15, l32_16, l32_17, l32_18, l32_19, l32_20, l32_21, l32_22, l32_23, l32_24, l32_25, l32_26, l32_27, l32_28, l32_29, l32_33, l32_40, l32_41, l32_44, l32_45, l32_59, l32_61, l32_91, l32_93, l32_123, l32_125, zz, n1, d1, z3, mm]
    · intro F c hP
      rw [List.take_length] at hP
      rw [hP]
      have zz := SZ s1 _ _ G0
      show mf_335_242 N (mf_335_L14 N F) (Int32.ofNat a) (Int32.ofNat n) (Int32.ofNat 2) (Int32.ofNat (wid q)) (Int32.ofNat 0) (Int32.ofNat q.length) s1 = _
      generalize wid q = W at *
      unfold mf_335_242 mf_335_249 mf_335_276
      simp (disch := omega) only [ev_S, ev_P, ↓reduceIte, Nat.reduceEqDiff, Nat.reduceLeDiff, Nat.reduceAdd, Nat.reduceMul, Nat.reduceSub, reduceCtorEq, l32_0, l32_1, l32_2, l32_3, l32_4, l32_5, l32_6, l32_7, l32_8, l32_9, l32_10, l32_11, l32_12, l32_13, l32_14, l32_15, l32_16, l32_17, l32_18, l32_19, l32_20, l32_21, l32_22, l32_23, l32_24, l32_25, l32_26, l32_27, l32_28, l32_29, l32_33, l32_40, l32_41, l32_44, l32_45, l32_59, l32_61, l32_91, l32_93, l32_123, l32_125, zz]
  rw [E1, E2]
  have hW := hw64 q.length
  rw [List.take_length] at hW
  unfold ansTr
  by_cases c : 20 < wid q
  · rw [if_pos c]
    obtain ⟨b1, b2⟩ := T 2
    refine ⟨_, ?_, b2⟩
    have c' : ¬ wid q ≤ 20 := by omega
    generalize wid q = W at *
    unfold mf_335_357 mf_335_369 mf_335_377 mf_335_382 mf_335_389
    simp (disch := omega) only [ev_S, ev_P, ↓reduceIte, Nat.reduceEqDiff, Nat.reduceLeDiff, Nat.reduceAdd, Nat.reduceMul, Nat.reduceSub, reduceCtorEq, l32_0, l32_1, l32_2, l32_3, l32_4, l32_5, l32_6, l32_7, l32_8, l32_9, l32_10, l32_11, l32_12, l32_13, l32_14, l32_15, l32_16, l32_17, l32_18, l32_19, l32_20, l32_21, l32_22, l32_23, l32_24, l32_25, l32_26, l32_27, l32_28, l32_29, l32_33, l32_40, l32_41, l32_44, l32_45, l32_59, l32_61, l32_91, l32_93, l32_123, l32_125, c, c', b1]
  · rw [if_neg c]
    have hcs := col_sum q
    have E3 : mf_335_357 N (Int32.ofNat a) (Int32.ofNat n) (Int32.ofNat 2) (Int32.ofNat (wid q)) (Int32.ofNat 0) s1 = mf_335_L7 N N 0 (Int32.ofNat a) (Int32.ofNat n) (Int32.ofNat 2) (Int32.ofNat (wid q)) (Int32.ofNat 0) (Int32.ofNat 0) (Int32.ofNat 0) s1 := by
      generalize wid q = W at *
      unfold mf_335_357 mf_335_364 mf_335_390
      simp (disch := omega) only [ev_S, ev_P, ↓reduceIte, Nat.reduceEqDiff, Nat.reduceLeDiff, Nat.reduceAdd, Nat.reduceMul, Nat.reduceSub, reduceCtorEq, l32_0, l32_1, l32_2, l32_3, l32_4, l32_5, l32_6, l32_7, l32_8, l32_9, l32_10, l32_11, l32_12, l32_13, l32_14, l32_15, l32_16, l32_17, l32_18, l32_19, l32_20, l32_21, l32_22, l32_23, l32_24, l32_25, l32_26, l32_27, l32_28, l32_29, l32_33, l32_40, l32_41, l32_44, l32_45, l32_59, l32_61, l32_91, l32_93, l32_123, l32_125, c]
    rw [E3]
    refine lpo (fun F i (s' : mS) => mf_335_L7 N F 0 (Int32.ofNat a) (Int32.ofNat n) (Int32.ofNat 2) (Int32.ofNat (wid q)) (Int32.ofNat i) (Int32.ofNat 0) (Int32.ofNat 0) s') (wid q) 67 (fun i s' => rG s s' n f (f + (2 * ((List.range i).map (col q)).length + (((List.range i).map (col q)).map List.length).sum)) (((List.range i).map (col q)).map nR)) (fun R => ∃ s', R = some (s', none) ∧ rE s s' n f m (ansM 2 (((List.range (wid q)).map (col q)).map nR))) ?_ ?_ (wid q) 0 N s1 (Nat.zero_add _) (by omega) G0
    · intro F i s2 hi G
      left
      have hl0 : ((List.range i).map (col q)).length = i := by rw [List.length_map, List.length_range]
      have hll : (((List.range i).map (col q)).map nR).length = i := by rw [List.length_map, hl0]
      have hsi := Nat.le_trans (hcs i) tw.2.1
      have n1 : ¬ wid q ≤ i := by omega
      have sp := G.1.1
      rw [hll] at sp
      have E4 : mf_335_L7 N (F + 67) 0 (Int32.ofNat a) (Int32.ofNat n) (Int32.ofNat 2) (Int32.ofNat (wid q)) (Int32.ofNat i) (Int32.ofNat 0) (Int32.ofNat 0) s2 = mf_335_L7 N (F + 66) 1 (Int32.ofNat a) (Int32.ofNat n) (Int32.ofNat 2) (Int32.ofNat (wid q)) (Int32.ofNat i) (Int32.ofNat (n + i)) (Int32.ofNat 0) s2 := by
        show mf_335_393 N (mf_335_L7 N (F + 66)) (Int32.ofNat a) (Int32.ofNat n) (Int32.ofNat 2) (Int32.ofNat (wid q)) (Int32.ofNat i) s2 = _
        generalize wid q = W at *
        unfold mf_335_393 mf_335_400
        simp (disch := omega) only [ev_S, ev_P, ↓reduceIte, Nat.reduceEqDiff, Nat.reduceLeDiff, Nat.reduceAdd, Nat.reduceMul, Nat.reduceSub, reduceCtorEq, l32_0, l32_1, l32_2, l32_3, l32_4, l32_5, l32_6, l32_7, l32_8, l32_9, l32_10, l32_11, l32_12, l32_13, l32_14, l32_15, l32_16, l32_17, l32_18, l32_19, l32_20, l32_21, l32_22, l32_23, l32_24, l32_25, l32_26, l32_27, l32_28, l32_29, l32_33, l32_40, l32_41, l32_44, l32_45, l32_59, l32_61, l32_91, l32_93, l32_123, l32_125, n1, sp]
      rw [E4]
      rcases lpi (fun F j (s' : mS) => mf_335_L7 N F 1 (Int32.ofNat a) (Int32.ofNat n) (Int32.ofNat 2) (Int32.ofNat (wid q)) (Int32.ofNat i) (Int32.ofNat (n + i)) (Int32.ofNat j) s') q.length (fun j s' => rG s s' n f (f + (2 * ((List.range i).map (col q)).length + (((List.range i).map (col q)).map List.length).sum)) (((List.range i).map (col q)).map nR ++ (col (q.take j) i).map nZ)) (fun _ => False) (by
        intro F j s3 hj G3
        left
        have zz := SZ s3 _ _ G3
        have n2 : ¬ q.length ≤ j := by omega
        obtain ⟨c', d1, d2⟩ := PT j hj s3 _ _ G3
        have z3 := G3.size (N := N) d2 (by omega)
        have z3 : mf_77 N (Int32.ofNat c') s3 = some (s3, some (.int (Int32.ofNat q[j].length))) := z3
        have hq6 := tw.2.2 _ (List.getElem_mem hj)
        have hcl : (col (q.take j) i).length ≤ j := Nat.le_trans col_len (by rw [List.length_take]; omega)
        by_cases e : i < q[j].length
        · obtain ⟨s4, p1, p2⟩ := rG.elem (N := N) (i := i) (x := nR q[j]) G3 (by rw [List.length_append, hll, List.length_map]; omega) (by omega) d2 (by show _ < (q[j].map nZ).length; rw [List.length_map]; exact e)
          have eg : (pts (nR q[j]))[i]'(by show _ < (q[j].map nZ).length; rw [List.length_map]; exact e) = nZ (q[j].getD i 0) := by
            show (q[j].map nZ)[i]'_ = _
            rw [List.getElem_map, getD_e e]
          rw [eg] at p2
          refine ⟨s4, ?_, ?_⟩
          · rw [col_s hj, if_pos e, List.map_append, ← List.append_assoc]
            exact p2
          · show mf_335_409 N (mf_335_L7 N F) (Int32.ofNat a) (Int32.ofNat n) (Int32.ofNat 2) (Int32.ofNat (wid q)) (Int32.ofNat i) (Int32.ofNat (n + i)) (Int32.ofNat j) s3 = _
            have e' : ¬ q[j].length ≤ i := by omega
            generalize wid q = W at *
            unfold mf_335_409 mf_335_416 mf_335_419 mf_335_448 mf_335_454 mf_335_462 mf_335_465 mf_335_470 mf_335_478 mf_335_483
            simp (disch := omega) only [ev_S, ev_P, ↓reduceIte, Nat.reduceEqDiff, Nat.reduceLeDiff, Nat.reduceAdd, Nat.reduceMul, Nat.reduceSub, reduceCtorEq, l32_0, l32_1, l32_2, l32_3, l32_4, l32_5, l32_6, l32_7, l32_8, l32_9, l32_10, l32_11, l32_12, l32_13, l32_14, l32_15, l32_16, l32_17, l32_18, l32_19, l32_20, l32_21, l32_22, l32_23, l32_24, l32_25, l32_26, l32_27, l32_28, l32_29, l32_33, l32_40, l32_41, l32_44, l32_45, l32_59, l32_61, l32_91, l32_93, l32_123, l32_125, zz, n2, d1, z3, e', p1]
        · refine ⟨s3, ?_, ?_⟩
          · rw [col_s hj, if_neg e, List.append_nil]
            exact G3
          · show mf_335_409 N (mf_335_L7 N F) (Int32.ofNat a) (Int32.ofNat n) (Int32.ofNat 2) (Int32.ofNat (wid q)) (Int32.ofNat i) (Int32.ofNat (n + i)) (Int32.ofNat j) s3 = _
            have e' : q[j].length ≤ i := by omega
            generalize wid q = W at *
            unfold mf_335_409 mf_335_416 mf_335_419 mf_335_448 mf_335_454 mf_335_462 mf_335_465 mf_335_483
            simp (disch := omega) only [ev_S, ev_P, ↓reduceIte, Nat.reduceEqDiff, Nat.reduceLeDiff, Nat.reduceAdd, Nat.reduceMul, Nat.reduceSub, reduceCtorEq, l32_0, l32_1, l32_2, l32_3, l32_4, l32_5, l32_6, l32_7, l32_8, l32_9, l32_10, l32_11, l32_12, l32_13, l32_14, l32_15, l32_16, l32_17, l32_18, l32_19, l32_20, l32_21, l32_22, l32_23, l32_24, l32_25, l32_26, l32_27, l32_28, l32_29, l32_33, l32_40, l32_41, l32_44, l32_45, l32_59, l32_61, l32_91, l32_93, l32_123, l32_125, zz, n2, d1, z3, e']) q.length 0 (F + 66 - q.length) s2 (Nat.zero_add _) (by rw [List.take_zero, show (col [] i).map nZ = [] from rfl, List.append_nil]; exact G) with ⟨s3, G3, e3⟩ | h
      · rw [List.take_length] at G3
        rw [show F + 66 - q.length + q.length = F + 66 by omega] at e3
        have zz := SZ s3 _ _ G3
        have hcl : (col q i).length ≤ q.length := col_len
        obtain ⟨s4, w1, w2⟩ := rG.row (N := N) hN G3 (by rw [hll]; omega) (by omega)
        rw [hll] at w1
        refine ⟨s4, F + 65 - q.length, ?_, by omega, ?_⟩
        · rw [range_map_s, List.map_append, List.map_append, List.length_append, List.sum_append]
          have e : f + (2 * (((List.range i).map (col q)).length + [col q i].length) + ((((List.range i).map (col q)).map List.length).sum + ([col q i].map List.length).sum)) = f + (2 * ((List.range i).map (col q)).length + (((List.range i).map (col q)).map List.length).sum) + 2 + (col q i).length := by
            show f + (2 * (_ + 1) + (_ + ((col q i).length + 0))) = _
            omega
          rw [e]
          exact w2
        · show mf_335_L7 N (F + 66) 1 _ _ _ _ _ _ _ s2 = _
          rw [e3, show F + 66 - q.length = F + 65 - q.length + 1 by omega]
          show mf_335_409 N (mf_335_L7 N (F + 65 - q.length)) (Int32.ofNat a) (Int32.ofNat n) (Int32.ofNat 2) (Int32.ofNat (wid q)) (Int32.ofNat i) (Int32.ofNat (n + i)) (Int32.ofNat q.length) s3 = _
          generalize wid q = W at *
          unfold mf_335_409 mf_335_416 mf_335_489 mf_335_495
          simp (disch := omega) only [ev_S, ev_P, ↓reduceIte, Nat.reduceEqDiff, Nat.reduceLeDiff, Nat.reduceAdd, Nat.reduceMul, Nat.reduceSub, reduceCtorEq, l32_0, l32_1, l32_2, l32_3, l32_4, l32_5, l32_6, l32_7, l32_8, l32_9, l32_10, l32_11, l32_12, l32_13, l32_14, l32_15, l32_16, l32_17, l32_18, l32_19, l32_20, l32_21, l32_22, l32_23, l32_24, l32_25, l32_26, l32_27, l32_28, l32_29, l32_33, l32_40, l32_41, l32_44, l32_45, l32_59, l32_61, l32_91, l32_93, l32_123, l32_125, zz, w1]
      · exact h.elim
    · intro F s2 G
      have hlp : ((List.range (wid q)).map (col q)).length = wid q := by rw [List.length_map, List.length_range]
      have hsi := Nat.le_trans (hcs (wid q)) tw.2.1
      obtain ⟨s3, b1, b2⟩ := rA.bTab (N := N) hN H G (fun r' hr' => by
        obtain ⟨j, -, rfl⟩ := List.mem_map.mp hr'
        exact Nat.le_trans col_len (by omega)) (by rw [hlp]; omega) (by rw [hlp]; omega)
      refine ⟨s3, ?_, b2⟩
      show mf_335_393 N (mf_335_L7 N F) (Int32.ofNat a) (Int32.ofNat n) (Int32.ofNat 2) (Int32.ofNat (wid q)) (Int32.ofNat (wid q)) s2 = _
      generalize wid q = W at *
      unfold mf_335_393 mf_335_501 mf_335_507
      simp (disch := omega) only [ev_S, ev_P, ↓reduceIte, Nat.reduceEqDiff, Nat.reduceLeDiff, Nat.reduceAdd, Nat.reduceMul, Nat.reduceSub, reduceCtorEq, l32_0, l32_1, l32_2, l32_3, l32_4, l32_5, l32_6, l32_7, l32_8, l32_9, l32_10, l32_11, l32_12, l32_13, l32_14, l32_15, l32_16, l32_17, l32_18, l32_19, l32_20, l32_21, l32_22, l32_23, l32_24, l32_25, l32_26, l32_27, l32_28, l32_29, l32_33, l32_40, l32_41, l32_44, l32_45, l32_59, l32_61, l32_91, l32_93, l32_123, l32_125, b1]
theorem c_col (hN : 170000 ≤ N) (hh : cHp t u w) (hx : cN (cel t) u vx x) (c2 : kn x = 2) (wx : wfN x) (hj : j < 64) (hw : w ≤ 2000) (hu : u ≤ 164000) : ∃ t2 v2, cf_105 N X vx (Int32.ofNat (tvN x).length) (Int32.ofNat j) t = some (t2, .inl (some (.long v2))) ∧ cG t t2 u (u + 1 + (col (tvN x) j).length) w [] ∧ cN (cel t2) (u + 1 + (col (tvN x) j).length) v2 (nR (col (tvN x) j)) := by
  have ga := c_gathered (N := N) (X := X) hh
  have tw := tv_wf c2 wx
  have PT := fun i (hi : i < (tvN x).length) t' u' ys (G : cG t t' u u' w ys) => c_rowT (N := N) (X := X) G.c (G.up hx) c2 hi
  generalize tvN x = q at *
  have E1 : cf_105 N X vx (Int32.ofNat q.length) (Int32.ofNat j) t = cf_105_L2 N X N 0 vx (Int32.ofNat q.length) (Int32.ofNat j) (Int32.ofNat w) (Int32.ofNat 0) t := by
    unfold cf_105 cf_105_0 cf_105_7
    simp (disch := omega) only [ev_S, ev_C, ↓reduceIte, Nat.reduceEqDiff, Nat.reduceLeDiff, Nat.reduceAdd, Nat.reduceMul, Nat.reduceSub, reduceCtorEq, l32_0, l32_1, l32_2, l32_3, l32_4, l32_5, l32_6, l32_7, l32_8, l32_9, l32_10, l32_11, l32_12, l32_13, l32_14, l32_15, l32_16, l32_17, l32_18, l32_19, l32_20, l32_21, l32_22, l32_23, l32_24, l32_25, l32_26, l32_27, l32_28, l32_29, l32_33, l32_40, l32_41, l32_44, l32_45, l32_59, l32_61, l32_91, l32_93, l32_123, l32_125, ga]
  rw [E1]
  refine lp (fun F i (t' : cS) => cf_105_L2 N X F 0 vx (Int32.ofNat q.length) (Int32.ofNat j) (Int32.ofNat w) (Int32.ofNat i) t') q.length (fun i t' => cG t t' u u w ((col (q.take i) j).map nZ)) (fun R => ∃ t2 v2, R = some (t2, .inl (some (.long v2))) ∧ cG t t2 u (u + 1 + (col q j).length) w [] ∧ cN (cel t2) (u + 1 + (col q j).length) v2 (nR (col q j))) ?_ ?_ q.length 0 N t (Nat.zero_add _) (by omega) (cG.nil hh)
  · intro F i t1 hi G _
    left
    have n1 : ¬ q.length ≤ i := by omega
    obtain ⟨v1, d1, d2⟩ := PT i hi t1 _ _ G
    have z1 := c_sizeN (N := N) (X := X) G.c d2
    have z1 : cf_128 N X v1 t1 = some (t1, .inl (some (.int (Int32.ofNat q[i].length)))) := z1
    have hq6 := tw.2.2 _ (List.getElem_mem hi)
    have hcl : (col (q.take i) j).length ≤ i := Nat.le_trans col_len (by rw [List.length_take]; omega)
    by_cases e : j < q[i].length
    · have pa := c_partR (N := N) (X := X) G.c (cN_iff.mp d2) e
      obtain ⟨t2, p1, p2⟩ := cG.put (N := N) (X := X) G (by rw [List.length_map]; omega) (cN_Z (z := q[i][j]))
      have p1 : cf_123 N X (tg (Int32.ofNat 0) q[i][j]) t1 = _ := p1
      refine ⟨t2, ?_, ?_⟩
      · rw [col_s hi, if_pos e, List.map_append, getD_e e]
        exact p2
      · show cf_105_12 N X (cf_105_L2 N X F) vx (Int32.ofNat q.length) (Int32.ofNat j) (Int32.ofNat w) (Int32.ofNat i) t1 = _
        have e' : ¬ q[i].length ≤ j := by omega
        unfold cf_105_12 cf_105_18 cf_105_28 cf_105_41 cf_105_44 cf_105_59 cf_105_62
        simp (disch := omega) only [ev_S, ev_C, ↓reduceIte, Nat.reduceEqDiff, Nat.reduceLeDiff, Nat.reduceAdd, Nat.reduceMul, Nat.reduceSub, reduceCtorEq, l32_0, l32_1, l32_2, l32_3, l32_4, l32_5, l32_6, l32_7, l32_8, l32_9, l32_10, l32_11, l32_12, l32_13, l32_14, l32_15, l32_16, l32_17, l32_18, l32_19, l32_20, l32_21, l32_22, l32_23, l32_24, l32_25, l32_26, l32_27, l32_28, l32_29, l32_33, l32_40, l32_41, l32_44, l32_45, l32_59, l32_61, l32_91, l32_93, l32_123, l32_125, n1, d1, z1, e', pa, p1]
    · refine ⟨t1, ?_, ?_⟩
      · rw [col_s hi, if_neg e, List.append_nil]
        exact G
      · show cf_105_12 N X (cf_105_L2 N X F) vx (Int32.ofNat q.length) (Int32.ofNat j) (Int32.ofNat w) (Int32.ofNat i) t1 = _
        have e' : q[i].length ≤ j := by omega
        unfold cf_105_12 cf_105_18 cf_105_28 cf_105_41 cf_105_62
        simp (disch := omega) only [ev_S, ev_C, ↓reduceIte, Nat.reduceEqDiff, Nat.reduceLeDiff, Nat.reduceAdd, Nat.reduceMul, Nat.reduceSub, reduceCtorEq, l32_0, l32_1, l32_2, l32_3, l32_4, l32_5, l32_6, l32_7, l32_8, l32_9, l32_10, l32_11, l32_12, l32_13, l32_14, l32_15, l32_16, l32_17, l32_18, l32_19, l32_20, l32_21, l32_22, l32_23, l32_24, l32_25, l32_26, l32_27, l32_28, l32_29, l32_33, l32_40, l32_41, l32_44, l32_45, l32_59, l32_61, l32_91, l32_93, l32_123, l32_125, n1, d1, z1, e']
  · intro F t1 G
    rw [List.take_length] at G
    have hcl : (col q j).length ≤ q.length := col_len
    obtain ⟨t2, v2, b1, b2, b3⟩ := cG.mkRow (N := N) (X := X) hN G (by omega) (by omega) (by omega)
    refine ⟨t2, v2, ?_, b2, b3⟩
    show cf_105_12 N X (cf_105_L2 N X F) vx (Int32.ofNat q.length) (Int32.ofNat j) (Int32.ofNat w) (Int32.ofNat q.length) t1 = _
    unfold cf_105_12 cf_105_68 cf_105_78
    simp (disch := omega) only [ev_S, ev_C, ↓reduceIte, Nat.reduceEqDiff, Nat.reduceLeDiff, Nat.reduceAdd, Nat.reduceMul, Nat.reduceSub, reduceCtorEq, l32_0, l32_1, l32_2, l32_3, l32_4, l32_5, l32_6, l32_7, l32_8, l32_9, l32_10, l32_11, l32_12, l32_13, l32_14, l32_15, l32_16, l32_17, l32_18, l32_19, l32_20, l32_21, l32_22, l32_23, l32_24, l32_25, l32_26, l32_27, l32_28, l32_29, l32_33, l32_40, l32_41, l32_44, l32_45, l32_59, l32_61, l32_91, l32_93, l32_123, l32_125, b1]
theorem c_trn (hN : 170000 ≤ N) (hh : cHp t u w) (hx : cN (cel t) u vx x) (wx : wfN x) (hu : u ≤ 162000) (hw : w ≤ 1000) : ∃ t' v, cf_104 N X vx t = some (t', .inl (some (.long v))) ∧ cE t t' u v (if kn x = 2 then ansTr (tvN x) else .inl 3) := by
  have kx := c_kn (N := N) (X := X) hx
  have lx := kn_le (x := x)
  by_cases c2 : kn x = 2
  · rw [if_pos c2]
    have zx := c_sizeN (N := N) (X := X) hh hx
    rw [kn2_sz c2] at zx
    have tw := tv_wf c2 wx
    have ga := c_gathered (N := N) (X := X) hh
    rw [c2] at kx
    have CL := fun j (hj : j < 64) t' u' ys (G : cG t t' u u' w ys) (h1 : w + ys.length ≤ 2000) (h2 : u' ≤ 164000) => c_col (N := N) (X := X) (j := j) hN G.c (G.up hx) c2 wx hj h1 h2
    have PT := fun i (hi : i < (tvN x).length) t' u' ys (G : cG t t' u u' w ys) => c_rowT (N := N) (X := X) G.c (G.up hx) c2 hi
    generalize tvN x = q at *
    have hw64 : ∀ i, wid (q.take i) ≤ 64 := fun i => wid_le (fun r hr => tw.2.2 r (List.mem_of_mem_take hr))
    have E1 : cf_104 N X vx t = cf_104_L8 N X N 0 vx (Int32.ofNat q.length) (Int32.ofNat 0) (Int32.ofNat 0) t := by
      unfold cf_104 cf_104_0 cf_104_4 cf_104_13 cf_104_21
      simp (disch := omega) only [ev_S, ev_C, ↓reduceIte, Nat.reduceEqDiff, Nat.reduceLeDiff, Nat.reduceAdd, Nat.reduceMul, Nat.reduceSub, reduceCtorEq, l32_0, l32_1, l32_2, l32_3, l32_4, l32_5, l32_6, l32_7, l32_8, l32_9, l32_10, l32_11, l32_12, l32_13, l32_14, l32_15, l32_16, l32_17, l32_18, l32_19, l32_20, l32_21, l32_22, l32_23, l32_24, l32_25, l32_26, l32_27, l32_28, l32_29, l32_33, l32_40, l32_41, l32_44, l32_45, l32_59, l32_61, l32_91, l32_93, l32_123, l32_125, kx, zx]
    have E2 : cf_104_L8 N X N 0 vx (Int32.ofNat q.length) (Int32.ofNat 0) (Int32.ofNat 0) t = cf_104_64 N X vx (Int32.ofNat q.length) (Int32.ofNat (wid q)) t := by
      refine lp (fun F i (c : Nat) => cf_104_L8 N X F 0 vx (Int32.ofNat q.length) (Int32.ofNat c) (Int32.ofNat i) t) q.length (fun i c => c = wid (q.take i)) (fun R => R = cf_104_64 N X vx (Int32.ofNat q.length) (Int32.ofNat (wid q)) t) ?_ ?_ q.length 0 N 0 (Nat.zero_add _) (by omega) rfl
      · intro F i c hi hP _
        left
        have n1 : ¬ q.length ≤ i := by omega
        obtain ⟨v1, d1, d2⟩ := PT i hi t _ _ (cG.nil hh)
        have z1 := c_sizeN (N := N) (X := X) hh d2
        have z1 : cf_128 N X v1 t = some (t, .inl (some (.int (Int32.ofNat q[i].length)))) := z1
        have hq6 := tw.2.2 _ (List.getElem_mem hi)
        have hc6 := hw64 i
        rw [← hP] at hc6
        have em : (if Int32.ofNat c < Int32.ofNat q[i].length then Int32.ofNat q[i].length else Int32.ofNat c) = Int32.ofNat (Nat.max c q[i].length) := by
          have e := mx_s (g := c) (z := Int32.ofNat q[i].length) (by omega)
          rw [pz_o (by omega)] at e
          exact e
        refine ⟨Nat.max c q[i].length, by rw [wid_s hi, hP], ?_⟩
        have E : cf_104_L8 N X (F + 1) 0 vx (Int32.ofNat q.length) (Int32.ofNat c) (Int32.ofNat i) t = cf_104_53 N X (cf_104_L8 N X F) vx (Int32.ofNat q.length) (Int32.ofNat i) (Int32.ofNat c) (Int32.ofNat q[i].length) t := by
          show cf_104_28 N X (cf_104_L8 N X F) vx (Int32.ofNat q.length) (Int32.ofNat c) (Int32.ofNat i) t = _
          unfold cf_104_28 cf_104_34 cf_104_50
          simp (disch := omega) only [ev_S, ev_C, ↓reduceIte, Nat.reduceEqDiff, Nat.reduceLeDiff, Nat.reduceAdd, Nat.reduceMul, Nat.reduceSub, reduceCtorEq, l32_0, l32_1, l32_2, l32_3, l32_4, l32_5, l32_6, l32_7, l32_8, l32_9, l32_10, l32_11, l32_12, l32_13, l32_14, l32_15, l32_16, l32_17, l32_18, l32_19, l32_20, l32_21, l32_22, l32_23, l32_24, l32_25, l32_26, l32_27, l32_28, l32_29, l32_33, l32_40, l32_41, l32_44, l32_45, l32_59, l32_61, l32_91, l32_93, l32_123, l32_125, n1, d1, z1]
        show cf_104_L8 N X (F + 1) 0 _ _ _ _ t = _
        rw [E]
        unfold cf_104_53
        rw [em, show Int32.ofNat i + 1 = Int32.ofNat (i + 1) from i32al]
      · intro F c hP
        rw [List.take_length] at hP
        rw [hP]
        show cf_104_28 N X (cf_104_L8 N X F) vx (Int32.ofNat q.length) (Int32.ofNat (wid q)) (Int32.ofNat q.length) t = _
        generalize wid q = W at *
        unfold cf_104_28
        simp (disch := omega) only [ev_S, ev_C, ↓reduceIte, Nat.reduceEqDiff, Nat.reduceLeDiff, Nat.reduceAdd, Nat.reduceMul, Nat.reduceSub, reduceCtorEq, l32_0, l32_1, l32_2, l32_3, l32_4, l32_5, l32_6, l32_7, l32_8, l32_9, l32_10, l32_11, l32_12, l32_13, l32_14, l32_15, l32_16, l32_17, l32_18, l32_19, l32_20, l32_21, l32_22, l32_23, l32_24, l32_25, l32_26, l32_27, l32_28, l32_29, l32_33, l32_40, l32_41, l32_44, l32_45, l32_59, l32_61, l32_91, l32_93, l32_123, l32_125]
    rw [E1, E2]
    have hW := hw64 q.length
    rw [List.take_length] at hW
    unfold ansTr
    by_cases c : 20 < wid q
    · rw [if_pos c]
      refine ⟨t, _, ?_, cE.tr hh⟩
      have b1 := c_rf (N := N) (X := X) (t := t) (k := Int32.ofNat 2)
      have c' : ¬ wid q ≤ 20 := by omega
      generalize wid q = W at *
      unfold cf_104_64 cf_104_71 cf_104_75
      simp (disch := omega) only [ev_S, ev_C, ↓reduceIte, Nat.reduceEqDiff, Nat.reduceLeDiff, Nat.reduceAdd, Nat.reduceMul, Nat.reduceSub, reduceCtorEq, l32_0, l32_1, l32_2, l32_3, l32_4, l32_5, l32_6, l32_7, l32_8, l32_9, l32_10, l32_11, l32_12, l32_13, l32_14, l32_15, l32_16, l32_17, l32_18, l32_19, l32_20, l32_21, l32_22, l32_23, l32_24, l32_25, l32_26, l32_27, l32_28, l32_29, l32_33, l32_40, l32_41, l32_44, l32_45, l32_59, l32_61, l32_91, l32_93, l32_123, l32_125, c', b1]
    · rw [if_neg c]
      have hcs := col_sum q
      have E3 : cf_104_64 N X vx (Int32.ofNat q.length) (Int32.ofNat (wid q)) t = cf_104_L2 N X N 0 vx (Int32.ofNat q.length) (Int32.ofNat (wid q)) (Int32.ofNat w) (Int32.ofNat 0) t := by
        have c' : wid q ≤ 20 := by omega
        generalize wid q = W at *
        unfold cf_104_64 cf_104_76 cf_104_83
        simp (disch := omega) only [ev_S, ev_C, ↓reduceIte, Nat.reduceEqDiff, Nat.reduceLeDiff, Nat.reduceAdd, Nat.reduceMul, Nat.reduceSub, reduceCtorEq, l32_0, l32_1, l32_2, l32_3, l32_4, l32_5, l32_6, l32_7, l32_8, l32_9, l32_10, l32_11, l32_12, l32_13, l32_14, l32_15, l32_16, l32_17, l32_18, l32_19, l32_20, l32_21, l32_22, l32_23, l32_24, l32_25, l32_26, l32_27, l32_28, l32_29, l32_33, l32_40, l32_41, l32_44, l32_45, l32_59, l32_61, l32_91, l32_93, l32_123, l32_125, c', ga]
      rw [E3]
      refine lp (fun F i (t' : cS) => cf_104_L2 N X F 0 vx (Int32.ofNat q.length) (Int32.ofNat (wid q)) (Int32.ofNat w) (Int32.ofNat i) t') (wid q) (fun i t' => cG t t' u (u + (i + (((List.range i).map (col q)).map List.length).sum)) w (((List.range i).map (col q)).map nR)) (fun R => ∃ t' v, R = some (t', .inl (some (.long v))) ∧ cE t t' u v (ansM 2 (((List.range (wid q)).map (col q)).map nR))) ?_ ?_ (wid q) 0 N t (Nat.zero_add _) (by omega) (cG.nil hh)
      · intro F i t1 hi G _
        left
        have hl0 : ((List.range i).map (col q)).length = i := by rw [List.length_map, List.length_range]
        have hll : (((List.range i).map (col q)).map nR).length = i := by rw [List.length_map, hl0]
        have hsi := Nat.le_trans (hcs i) tw.2.1
        have n1 : ¬ wid q ≤ i := by omega
        obtain ⟨t2, v, r1, r2, r3⟩ := CL i (by omega) t1 _ _ G (by rw [hll]; omega) (by omega)
        obtain ⟨t3, p1, p2⟩ := cG.addRow (N := N) (X := X) G r2 r3 (by rw [hll]; omega)
        refine ⟨t3, ?_, ?_⟩
        · rw [range_map_s, List.map_append, List.map_append, List.sum_append]
          have e : u + (i + 1 + ((((List.range i).map (col q)).map List.length).sum + ([col q i].map List.length).sum)) = u + (i + (((List.range i).map (col q)).map List.length).sum) + 1 + (col q i).length := by
            show u + (i + 1 + (_ + ((col q i).length + 0))) = _
            omega
          rw [e]
          exact p2
        · show cf_104_88 N X (cf_104_L2 N X F) vx (Int32.ofNat q.length) (Int32.ofNat (wid q)) (Int32.ofNat w) (Int32.ofNat i) t1 = _
          generalize wid q = W at *
          unfold cf_104_88 cf_104_95 cf_104_107 cf_104_110
          simp (disch := omega) only [ev_S, ev_C, ↓reduceIte, Nat.reduceEqDiff, Nat.reduceLeDiff, Nat.reduceAdd, Nat.reduceMul, Nat.reduceSub, reduceCtorEq, l32_0, l32_1, l32_2, l32_3, l32_4, l32_5, l32_6, l32_7, l32_8, l32_9, l32_10, l32_11, l32_12, l32_13, l32_14, l32_15, l32_16, l32_17, l32_18, l32_19, l32_20, l32_21, l32_22, l32_23, l32_24, l32_25, l32_26, l32_27, l32_28, l32_29, l32_33, l32_40, l32_41, l32_44, l32_45, l32_59, l32_61, l32_91, l32_93, l32_123, l32_125, n1, r1, p1]
      · intro F t1 G
        have hlp : ((List.range (wid q)).map (col q)).length = wid q := by rw [List.length_map, List.length_range]
        have hsi := Nat.le_trans (hcs (wid q)) tw.2.1
        obtain ⟨t2, v, b1, b2⟩ := cG.bT (N := N) (X := X) hN G (fun r' hr' => by
          obtain ⟨j, -, rfl⟩ := List.mem_map.mp hr'
          exact Nat.le_trans col_len (by omega)) (by rw [hlp]; omega) (by rw [hlp]; omega) (by omega) (by omega)
        refine ⟨t2, v, ?_, b2⟩
        show cf_104_88 N X (cf_104_L2 N X F) vx (Int32.ofNat q.length) (Int32.ofNat (wid q)) (Int32.ofNat w) (Int32.ofNat (wid q)) t1 = _
        generalize wid q = W at *
        unfold cf_104_88 cf_104_116 cf_104_126
        simp (disch := omega) only [ev_S, ev_C, ↓reduceIte, Nat.reduceEqDiff, Nat.reduceLeDiff, Nat.reduceAdd, Nat.reduceMul, Nat.reduceSub, reduceCtorEq, l32_0, l32_1, l32_2, l32_3, l32_4, l32_5, l32_6, l32_7, l32_8, l32_9, l32_10, l32_11, l32_12, l32_13, l32_14, l32_15, l32_16, l32_17, l32_18, l32_19, l32_20, l32_21, l32_22, l32_23, l32_24, l32_25, l32_26, l32_27, l32_28, l32_29, l32_33, l32_40, l32_41, l32_44, l32_45, l32_59, l32_61, l32_91, l32_93, l32_123, l32_125, b1]
  · rw [if_neg c2]
    refine ⟨t, _, ?_, cE.tr hh⟩
    have b1 := c_rf (N := N) (X := X) (t := t) (k := Int32.ofNat 3)
    generalize kn x = kx' at *
    unfold cf_104 cf_104_0 cf_104_4 cf_104_8 cf_104_12
    simp (disch := omega) only [ev_S, ev_C, ↓reduceIte, Nat.reduceEqDiff, Nat.reduceLeDiff, Nat.reduceAdd, Nat.reduceMul, Nat.reduceSub, reduceCtorEq, l32_0, l32_1, l32_2, l32_3, l32_4, l32_5, l32_6, l32_7, l32_8, l32_9, l32_10, l32_11, l32_12, l32_13, l32_14, l32_15, l32_16, l32_17, l32_18, l32_19, l32_20, l32_21, l32_22, l32_23, l32_24, l32_25, l32_26, l32_27, l32_28, l32_29, l32_33, l32_40, l32_41, l32_44, l32_45, l32_59, l32_61, l32_91, l32_93, l32_123, l32_125, kx, c2, b1]
end TRR
