/-! ===== PURE: run (56): group, both ===== -/
section GRR
variable {N : Nat} {X : Nat → Option zz_C} {s s' : mS} {t t' : cS} {n f f' m a i j u w : Nat} {x : Nod} {xs ys : List Nod} {vx v : Int64} {r : List Int32}
theorem r_grp (hN : 170000 ≤ N) (H : rA s n f m ys) (La : LayN (s.2.2.1 47) (Rf f) a (nR r)) (hr : r.length ≤ 64) : ∃ s', mf_335 N (Int32.ofNat 18) (Int32.ofNat a) (Int32.ofNat n) s = some (s', none) ∧ rE s s' n f m (ansGp r) := by
  have H' := H
  obtain ⟨-, H2, H3, H4, H5, H6, H7, H8, H9, H10⟩ := H'
  have G0 : rG s (mI s 51 (Int32.ofNat n)) n f f [] := rG.nil H2
  obtain ⟨s1, hs1⟩ : ∃ s1, s1 = mI s 51 (Int32.ofNat n) := ⟨_, rfl⟩
  rw [← hs1] at G0
  have T := fun k => rG.trb (N := N) H G0 (by omega) k
  have kd : s.2.2.1 47 a = Int32.ofNat 1 := (LayN_iff.mp La).2.kd.1
  have hla := rowlt La
  have SZ : ∀ s2 fx xs, rG s s2 n f fx xs → mf_77 N (Int32.ofNat a) s2 = some (s2, some (.int (Int32.ofNat r.length))) := fun s2 fx xs G => rG.size (N := N) G La (by omega)
  have E1 : mf_335 N (Int32.ofNat 18) (Int32.ofNat a) (Int32.ofNat n) s = mf_335_L11 N N 0 (Int32.ofNat a) (Int32.ofNat n) (Int32.ofNat 1) (Int32.ofNat 0) (Int32.ofNat 0) (Int32.ofNat 0) s1 := by
    rw [hs1]
    unfold mf_335 mf_335_0 mf_335_230 mf_335_279
    simp (disch := omega) only [ev_S, ev_P, ↓reduceIte, Nat.reduceEqDiff, Nat.reduceLeDiff, Nat.reduceAdd, Nat.reduceMul, Nat.reduceSub, reduceCtorEq, l32_0, l32_1, l32_2, l32_3, l32_4, l32_5, l32_6, l32_7, l32_8, l32_9, l32_10, l32_11, l32_12, l32_13, l32_14, l32_15, l32_16, l32_17, l32_18, l32_19, l32_20, l32_21, l32_22, l32_23, l32_24, l32_25, l32_26, l32_27, l32_28, l32_29, l32_33, l32_40, l32_41, l32_44, l32_45, l32_59, l32_61, l32_91, l32_93, l32_123, l32_125, kd]
  have E2 : ∃ l0, lst0 l0 (r.any fun z => decide (z < 0)) ∧ mf_335_L11 N N 0 (Int32.ofNat a) (Int32.ofNat n) (Int32.ofNat 1) (Int32.ofNat 0) (Int32.ofNat 0) (Int32.ofNat 0) s1 = mf_335_357 N (Int32.ofNat a) (Int32.ofNat n) (Int32.ofNat 1) (Int32.ofNat (Nat.min (grW r) 21)) l0 s1 := by
    refine lp (fun F i (c : Nat × Int32) => mf_335_L11 N F 0 (Int32.ofNat a) (Int32.ofNat n) (Int32.ofNat 1) (Int32.ofNat c.1) c.2 (Int32.ofNat i) s1) r.length (fun i c => c.1 = Nat.min (grW (r.take i)) 21 ∧ lst0 c.2 ((r.take i).any fun z => decide (z < 0))) (fun R => ∃ l0, lst0 l0 (r.any fun z => decide (z < 0)) ∧ R = mf_335_357 N (Int32.ofNat a) (Int32.ofNat n) (Int32.ofNat 1) (Int32.ofNat (Nat.min (grW r) 21)) l0 s1) ?_ ?_ r.length 0 N (0, Int32.ofNat 0) (Nat.zero_add _) (by omega) ⟨rfl, ⟨⟨fun q => absurd q (show ¬ Int32.ofNat 0 < 0 by decide), fun q => (by cases q)⟩, fun _ => rfl⟩⟩
    · intro F i c hi hP _
      left
      obtain ⟨c0, l0⟩ := c
      obtain ⟨P1, P2⟩ := hP
      have P1 : c0 = _ := P1
      have zz := SZ s1 _ _ G0
      have n1 : ¬ r.length ≤ i := by omega
      have cc := G0.cell La hi
      have hc21 : c0 ≤ 21 := by rw [P1]; exact Nat.min_le_right _ _
      have tail : ∀ w0 : Nat, mf_335_335 N (mf_335_L11 N F) (Int32.ofNat a) (Int32.ofNat n) (Int32.ofNat 1) (Int32.ofNat w0) l0 (Int32.ofNat i) r[i] s1 = mf_335_L11 N F 0 (Int32.ofNat a) (Int32.ofNat n) (Int32.ofNat 1) (Int32.ofNat w0) (if r[i] < l0 then r[i] else l0) (Int32.ofNat (i + 1)) s1 := fun w0 => by
        unfold mf_335_335
        by_cases c : r[i] < l0
        · rw [if_pos c, if_neg (Int32.not_le.mpr c)]
          unfold mf_335_342 mf_335_349
          simp (disch := omega) only [ev_S, ev_P, ↓reduceIte, Nat.reduceEqDiff, Nat.reduceLeDiff, Nat.reduceAdd, Nat.reduceMul, Nat.reduceSub, reduceCtorEq, l32_0, l32_1, l32_2, l32_3, l32_4, l32_5, l32_6, l32_7, l32_8, l32_9, l32_10, l32_11, l32_12, l32_13, l32_14, l32_15, l32_16, l32_17, l32_18, l32_19, l32_20, l32_21, l32_22, l32_23, l32_24, l32_25, l32_26, l32_27, l32_28, l32_29, l32_33, l32_40, l32_41, l32_44, l32_45, l32_59, l32_61, l32_91, l32_93, l32_123, l32_125]
        · rw [if_neg c, if_pos (Int32.not_lt.mp c)]
          unfold mf_335_347 mf_335_349
          simp (disch := omega) only [ev_S, ev_P, ↓reduceIte, Nat.reduceEqDiff, Nat.reduceLeDiff, Nat.reduceAdd, Nat.reduceMul, Nat.reduceSub, reduceCtorEq, l32_0, l32_1, l32_2, l32_3, l32_4, l32_5, l32_6, l32_7, l32_8, l32_9, l32_10, l32_11, l32_12, l32_13, l32_14, l32_15, l32_16, l32_17, l32_18, l32_19, l32_20, l32_21, l32_22, l32_23, l32_24, l32_25, l32_26, l32_27, l32_28, l32_29, l32_33, l32_40, l32_41, l32_44, l32_45, l32_59, l32_61, l32_91, l32_93, l32_123, l32_125]
      have key : ∃ w0, w0 = Nat.min (Nat.max (grW (r.take i)) (g1 r[i])) 21 ∧ mf_335_L11 N (F + 1) 0 (Int32.ofNat a) (Int32.ofNat n) (Int32.ofNat 1) (Int32.ofNat c0) l0 (Int32.ofNat i) s1 = mf_335_335 N (mf_335_L11 N F) (Int32.ofNat a) (Int32.ofNat n) (Int32.ofNat 1) (Int32.ofNat w0) l0 (Int32.ofNat i) r[i] s1 := by
        show ∃ w0, _ ∧ mf_335_282 N (mf_335_L11 N F) (Int32.ofNat a) (Int32.ofNat n) (Int32.ofNat 1) (Int32.ofNat c0) l0 (Int32.ofNat i) s1 = _
        by_cases z0 : r[i] < 0
        · refine ⟨c0, ?_, ?_⟩
          · rw [g1_n z0, P1]
            congr 1
            exact (Nat.max_eq_left (Nat.zero_le _)).symm
          · have y1 := (i32neg z0 (k := 19) (by omega)).2.1
            have y2 : r[i] < Int32.ofNat 0 := z0
            unfold mf_335_282 mf_335_289 mf_335_292 mf_335_319
            simp (disch := omega) only [ev_S, ev_P, ↓reduceIte, Nat.reduceEqDiff, Nat.reduceLeDiff, Nat.reduceAdd, Nat.reduceMul, Nat.reduceSub, reduceCtorEq, l32_0, l32_1, l32_2, l32_3, l32_4, l32_5, l32_6, l32_7, l32_8, l32_9, l32_10, l32_11, l32_12, l32_13, l32_14, l32_15, l32_16, l32_17, l32_18, l32_19, l32_20, l32_21, l32_22, l32_23, l32_24, l32_25, l32_26, l32_27, l32_28, l32_29, l32_33, l32_40, l32_41, l32_44, l32_45, l32_59, l32_61, l32_91, l32_93, l32_123, l32_125, zz, n1, cc, y1, y2]
        · obtain ⟨p, hp, ep⟩ := i32nn z0
          rw [ep] at cc ⊢
          rw [g1_o hp]
          by_cases g : 19 < p
          · refine ⟨21, ?_, ?_⟩
            · show 21 = min (max (grW (r.take i)) (p + 1)) 21
              omega
            · have g' : ¬ p ≤ 19 := by omega
              unfold mf_335_282 mf_335_289 mf_335_292 mf_335_312
              simp (disch := omega) only [ev_S, ev_P, ↓reduceIte, Nat.reduceEqDiff, Nat.reduceLeDiff, Nat.reduceAdd, Nat.reduceMul, Nat.reduceSub, reduceCtorEq, l32_0, l32_1, l32_2, l32_3, l32_4, l32_5, l32_6, l32_7, l32_8, l32_9, l32_10, l32_11, l32_12, l32_13, l32_14, l32_15, l32_16, l32_17, l32_18, l32_19, l32_20, l32_21, l32_22, l32_23, l32_24, l32_25, l32_26, l32_27, l32_28, l32_29, l32_33, l32_40, l32_41, l32_44, l32_45, l32_59, l32_61, l32_91, l32_93, l32_123, l32_125, zz, n1, cc, g', show (21 : Int32) = Int32.ofNat 21 from rfl]
          · refine ⟨Nat.max c0 (p + 1), ?_, ?_⟩
            · rw [P1]
              exact min21 g
            · have g' : p ≤ 19 := by omega
              have mm := r_most (N := N) (s := s1) (p := c0) (q := p + 1) (by omega) (by omega)
              unfold mf_335_282 mf_335_289 mf_335_292 mf_335_319 mf_335_324 mf_335_333
              simp (disch := omega) only [ev_S, ev_P, ↓reduceIte, Nat.reduceEqDiff, Nat.reduceLeDiff, Nat.reduceAdd, Nat.reduceMul, Nat.reduceSub, reduceCtorEq, l32_0, l32_1, l32_2, l32_3, l32_4, l32_5, l32_6, l32_7, l32_8, l32_9, l32_10, l32_11, l32_12, l32_13, l32_14, l32_15, l32_16, l32_17, l32_18, l32_19, l32_20, l32_21, l32_22, l32_23, l32_24, l32_25, l32_26, l32_27, l32_28, l32_29, l32_33, l32_40, l32_41, l32_44, l32_45, l32_59, l32_61, l32_91, l32_93, l32_123, l32_125, zz, n1, cc, g', mm]
      obtain ⟨w0, k1, k2⟩ := key
      refine ⟨(w0, if r[i] < l0 then r[i] else l0), ⟨?_, ?_⟩, ?_⟩
      · show w0 = _
        rw [grW_s hi, k1]
      · rw [take_any hi]
        exact lst0_s P2
      · show mf_335_L11 N (F + 1) 0 (Int32.ofNat a) (Int32.ofNat n) (Int32.ofNat 1) (Int32.ofNat c0) l0 (Int32.ofNat i) s1 = _
        rw [k2, tail]
    · intro F c hP
      obtain ⟨c0, l0⟩ := c
      obtain ⟨P1, P2⟩ := hP
      rw [List.take_length] at P1 P2
      have P1 : c0 = _ := P1
      refine ⟨l0, P2, ?_⟩
      rw [← P1]
      have zz := SZ s1 _ _ G0
      show mf_335_282 N (mf_335_L11 N F) (Int32.ofNat a) (Int32.ofNat n) (Int32.ofNat 1) (Int32.ofNat c0) l0 (Int32.ofNat r.length) s1 = _
      unfold mf_335_282 mf_335_289
      simp (disch := omega) only [ev_S, ev_P, ↓reduceIte, Nat.reduceEqDiff, Nat.reduceLeDiff, Nat.reduceAdd, Nat.reduceMul, Nat.reduceSub, reduceCtorEq, l32_0, l32_1, l32_2, l32_3, l32_4, l32_5, l32_6, l32_7, l32_8, l32_9, l32_10, l32_11, l32_12, l32_13, l32_14, l32_15, l32_16, l32_17, l32_18, l32_19, l32_20, l32_21, l32_22, l32_23, l32_24, l32_25, l32_26, l32_27, l32_28, l32_29, l32_33, l32_40, l32_41, l32_44, l32_45, l32_59, l32_61, l32_91, l32_93, l32_123, l32_125, zz]
  obtain ⟨l0, hl0, E2⟩ := E2
  rw [E1, E2]
  unfold ansGp
  by_cases c : 20 < grW r
  · rw [if_pos c, show Nat.min (grW r) 21 = 21 from Nat.min_eq_right (by omega)]
    obtain ⟨b1, b2⟩ := T 2
    refine ⟨_, ?_, b2⟩
    unfold mf_335_357 mf_335_369 mf_335_377 mf_335_382 mf_335_389
    simp (disch := omega) only [ev_S, ev_P, ↓reduceIte, Nat.reduceEqDiff, Nat.reduceLeDiff, Nat.reduceAdd, Nat.reduceMul, Nat.reduceSub, reduceCtorEq, l32_0, l32_1, l32_2, l32_3, l32_4, l32_5, l32_6, l32_7, l32_8, l32_9, l32_10, l32_11, l32_12, l32_13, l32_14, l32_15, l32_16, l32_17, l32_18, l32_19, l32_20, l32_21, l32_22, l32_23, l32_24, l32_25, l32_26, l32_27, l32_28, l32_29, l32_33, l32_40, l32_41, l32_44, l32_45, l32_59, l32_61, l32_91, l32_93, l32_123, l32_125, b1]
  · rw [if_neg c, show Nat.min (grW r) 21 = grW r from Nat.min_eq_left (by omega)]
    have E3 : mf_335_357 N (Int32.ofNat a) (Int32.ofNat n) (Int32.ofNat 1) (Int32.ofNat (grW r)) l0 s1 = mf_335_364 N (Int32.ofNat a) (Int32.ofNat n) (Int32.ofNat 1) (Int32.ofNat (grW r)) l0 s1 := by
      generalize grW r = W at *
      unfold mf_335_357
      simp (disch := omega) only [ev_S, ev_P, ↓reduceIte, Nat.reduceEqDiff, Nat.reduceLeDiff, Nat.reduceAdd, Nat.reduceMul, Nat.reduceSub, reduceCtorEq, l32_0, l32_1, l32_2, l32_3, l32_4, l32_5, l32_6, l32_7, l32_8, l32_9, l32_10, l32_11, l32_12, l32_13, l32_14, l32_15, l32_16, l32_17, l32_18, l32_19, l32_20, l32_21, l32_22, l32_23, l32_24, l32_25, l32_26, l32_27, l32_28, l32_29, l32_33, l32_40, l32_41, l32_44, l32_45, l32_59, l32_61, l32_91, l32_93, l32_123, l32_125, c]
    rw [E3]
    unfold mf_335_364
    by_cases d : l0 < 0
    · rw [if_pos (hl0.1.mp d), if_neg (Int32.not_le.mpr d)]
      obtain ⟨b1, b2⟩ := T 1
      refine ⟨_, ?_, b2⟩
      have c' : grW r ≤ 20 := by omega
      generalize grW r = W at *
      unfold mf_335_369 mf_335_381 mf_335_382 mf_335_389
      simp (disch := omega) only [ev_S, ev_P, ↓reduceIte, Nat.reduceEqDiff, Nat.reduceLeDiff, Nat.reduceAdd, Nat.reduceMul, Nat.reduceSub, reduceCtorEq, l32_0, l32_1, l32_2, l32_3, l32_4, l32_5, l32_6, l32_7, l32_8, l32_9, l32_10, l32_11, l32_12, l32_13, l32_14, l32_15, l32_16, l32_17, l32_18, l32_19, l32_20, l32_21, l32_22, l32_23, l32_24, l32_25, l32_26, l32_27, l32_28, l32_29, l32_33, l32_40, l32_41, l32_44, l32_45, l32_59, l32_61, l32_91, l32_93, l32_123, l32_125, c', b1]
    · rw [if_neg (fun z => d (hl0.1.mpr z)), if_pos (Int32.not_lt.mp d)]
      have hcs := fun k (hk : k ≤ 1000) => plc_sum (r := r) hk r.length
      refine lpo (fun F i (s' : mS) => mf_335_L7 N F 0 (Int32.ofNat a) (Int32.ofNat n) (Int32.ofNat 1) (Int32.ofNat (grW r)) (Int32.ofNat i) (Int32.ofNat 0) (Int32.ofNat 0) s') (grW r) 67 (fun i s' => rG s s' n f (f + (2 * ((List.range i).map (plc r)).length + (((List.range i).map (plc r)).map List.length).sum)) (((List.range i).map (plc r)).map nR)) (fun R => ∃ s', R = some (s', none) ∧ rE s s' n f m (ansM 2 (((List.range (grW r)).map (plc r)).map nR))) ?_ ?_ (grW r) 0 N s1 (Nat.zero_add _) (by omega) G0
      · intro F i s2 hi G
        left
        have hl0' : ((List.range i).map (plc r)).length = i := by rw [List.length_map, List.length_range]
        have hll : (((List.range i).map (plc r)).map nR).length = i := by rw [List.length_map, hl0']
        have hsi := hcs i (by omega)
        have hsi : (((List.range i).map (plc r)).map List.length).sum ≤ r.length := hsi
        have n1 : ¬ grW r ≤ i := by omega
        have sp := G.1.1
        rw [hll] at sp
        have E4 : mf_335_L7 N (F + 67) 0 (Int32.ofNat a) (Int32.ofNat n) (Int32.ofNat 1) (Int32.ofNat (grW r)) (Int32.ofNat i) (Int32.ofNat 0) (Int32.ofNat 0) s2 = mf_335_L7 N (F + 66) 1 (Int32.ofNat a) (Int32.ofNat n) (Int32.ofNat 1) (Int32.ofNat (grW r)) (Int32.ofNat i) (Int32.ofNat (n + i)) (Int32.ofNat 0) s2 := by
          show mf_335_393 N (mf_335_L7 N (F + 66)) (Int32.ofNat a) (Int32.ofNat n) (Int32.ofNat 1) (Int32.ofNat (grW r)) (Int32.ofNat i) s2 = _
          generalize grW r = W at *
          unfold mf_335_393 mf_335_400
          simp (disch := omega) only [ev_S, ev_P, ↓reduceIte, Nat.reduceEqDiff, Nat.reduceLeDiff, Nat.reduceAdd, Nat.reduceMul, Nat.reduceSub, reduceCtorEq, l32_0, l32_1, l32_2, l32_3, l32_4, l32_5, l32_6, l32_7, l32_8, l32_9, l32_10, l32_11, l32_12, l32_13, l32_14, l32_15, l32_16, l32_17, l32_18, l32_19, l32_20, l32_21, l32_22, l32_23, l32_24, l32_25, l32_26, l32_27, l32_28, l32_29, l32_33, l32_40, l32_41, l32_44, l32_45, l32_59, l32_61, l32_91, l32_93, l32_123, l32_125, n1, sp]
        rw [E4]
        rcases lpi (fun F j (s' : mS) => mf_335_L7 N F 1 (Int32.ofNat a) (Int32.ofNat n) (Int32.ofNat 1) (Int32.ofNat (grW r)) (Int32.ofNat i) (Int32.ofNat (n + i)) (Int32.ofNat j) s') r.length (fun j s' => rG s s' n f (f + (2 * ((List.range i).map (plc r)).length + (((List.range i).map (plc r)).map List.length).sum)) (((List.range i).map (plc r)).map nR ++ (plcT r i j).map nZ)) (fun _ => False) (by
          intro F j s3 hj G3
          left
          have zz := SZ s3 _ _ G3
          have n2 : ¬ r.length ≤ j := by omega
          have cc := G3.cell La hj
          have hcl := plcT_len (r := r) (n := i) (i := j)
          have eg := getD_e (d := 0) hj
          by_cases e : r[j] = Int32.ofNat i
          · obtain ⟨s4, p1, p2⟩ := rG.pushZ (N := N) G3 (by rw [List.length_append, hll, List.length_map]; omega) (Int32.ofNat j)
            refine ⟨s4, ?_, ?_⟩
            · rw [plcT_s, eg, if_pos e, List.map_append, ← List.append_assoc]
              exact p2
            · show mf_335_409 N (mf_335_L7 N F) (Int32.ofNat a) (Int32.ofNat n) (Int32.ofNat 1) (Int32.ofNat (grW r)) (Int32.ofNat i) (Int32.ofNat (n + i)) (Int32.ofNat j) s3 = _
              rw [e] at cc
              generalize grW r = W at *
              unfold mf_335_409 mf_335_416 mf_335_419 mf_335_425 mf_335_441 mf_335_448 mf_335_483
              simp (disch := omega) only [ev_S, ev_P, ↓reduceIte, Nat.reduceEqDiff, Nat.reduceLeDiff, Nat.reduceAdd, Nat.reduceMul, Nat.reduceSub, reduceCtorEq, l32_0, l32_1, l32_2, l32_3, l32_4, l32_5, l32_6, l32_7, l32_8, l32_9, l32_10, l32_11, l32_12, l32_13, l32_14, l32_15, l32_16, l32_17, l32_18, l32_19, l32_20, l32_21, l32_22, l32_23, l32_24, l32_25, l32_26, l32_27, l32_28, l32_29, l32_33, l32_40, l32_41, l32_44, l32_45, l32_59, l32_61, l32_91, l32_93, l32_123, l32_125, zz, n2, cc, p1]
          · refine ⟨s3, ?_, ?_⟩
            · rw [plcT_s, eg, if_neg e, List.append_nil]
              exact G3
            · show mf_335_409 N (mf_335_L7 N F) (Int32.ofNat a) (Int32.ofNat n) (Int32.ofNat 1) (Int32.ofNat (grW r)) (Int32.ofNat i) (Int32.ofNat (n + i)) (Int32.ofNat j) s3 = _
              generalize grW r = W at *
              unfold mf_335_409 mf_335_416 mf_335_419 mf_335_425 mf_335_448 mf_335_483
              simp (disch := omega) only [ev_S, ev_P, ↓reduceIte, Nat.reduceEqDiff, Nat.reduceLeDiff, Nat.reduceAdd, Nat.reduceMul, Nat.reduceSub, reduceCtorEq, l32_0, l32_1, l32_2, l32_3, l32_4, l32_5, l32_6, l32_7, l32_8, l32_9, l32_10, l32_11, l32_12, l32_13, l32_14, l32_15, l32_16, l32_17, l32_18, l32_19, l32_20, l32_21, l32_22, l32_23, l32_24, l32_25, l32_26, l32_27, l32_28, l32_29, l32_33, l32_40, l32_41, l32_44, l32_45, l32_59, l32_61, l32_91, l32_93, l32_123, l32_125, zz, n2, cc, e]) r.length 0 (F + 66 - r.length) s2 (Nat.zero_add _) (by rw [show (plcT r i 0).map nZ = [] from rfl, List.append_nil]; exact G) with ⟨s3, G3, e3⟩ | h
        · rw [show F + 66 - r.length + r.length = F + 66 by omega] at e3
          have zz := SZ s3 _ _ G3
          have hcl := plcT_len (r := r) (n := i) (i := r.length)
          obtain ⟨s4, w1, w2⟩ := rG.row (N := N) hN G3 (by rw [hll]; omega) (by omega)
          rw [hll] at w1
          refine ⟨s4, F + 65 - r.length, ?_, by omega, ?_⟩
          · rw [range_map_s, List.map_append, List.map_append, List.length_append, List.sum_append]
            have e : f + (2 * (((List.range i).map (plc r)).length + [plc r i].length) + ((((List.range i).map (plc r)).map List.length).sum + ([plc r i].map List.length).sum)) = f + (2 * ((List.range i).map (plc r)).length + (((List.range i).map (plc r)).map List.length).sum) + 2 + (plc r i).length := by
              show f + (2 * (_ + 1) + (_ + ((plc r i).length + 0))) = _
              omega
            rw [e]
            exact w2
          · show mf_335_L7 N (F + 66) 1 _ _ _ _ _ _ _ s2 = _
            rw [e3, show F + 66 - r.length = F + 65 - r.length + 1 by omega]
            show mf_335_409 N (mf_335_L7 N (F + 65 - r.length)) (Int32.ofNat a) (Int32.ofNat n) (Int32.ofNat 1) (Int32.ofNat (grW r)) (Int32.ofNat i) (Int32.ofNat (n + i)) (Int32.ofNat r.length) s3 = _
            generalize grW r = W at *
            unfold mf_335_409 mf_335_416 mf_335_489 mf_335_495
            simp (disch := omega) only [ev_S, ev_P, ↓reduceIte, Nat.reduceEqDiff, Nat.reduceLeDiff, Nat.reduceAdd, Nat.reduceMul, Nat.reduceSub, reduceCtorEq, l32_0, l32_1, l32_2, l32_3, l32_4, l32_5, l32_6, l32_7, l32_8, l32_9, l32_10, l32_11, l32_12, l32_13, l32_14, l32_15, l32_16, l32_17, l32_18, l32_19, l32_20, l32_21, l32_22, l32_23, l32_24, l32_25, l32_26, l32_27, l32_28, l32_29, l32_33, l32_40, l32_41, l32_44, l32_45, l32_59, l32_61, l32_91, l32_93, l32_123, l32_125, zz, w1]
        · exact h.elim
      · intro F s2 G
        have hlp : ((List.range (grW r)).map (plc r)).length = grW r := by rw [List.length_map, List.length_range]
        have hsi := hcs (grW r) (by omega)
        have hsi : (((List.range (grW r)).map (plc r)).map List.length).sum ≤ r.length := hsi
        obtain ⟨s3, b1, b2⟩ := rA.bTab (N := N) hN H G (fun r' hr' => by
          obtain ⟨j, -, rfl⟩ := List.mem_map.mp hr'
          exact Nat.le_trans plcT_len hr) (by rw [hlp]; omega) (by rw [hlp]; omega)
        refine ⟨s3, ?_, b2⟩
        show mf_335_393 N (mf_335_L7 N F) (Int32.ofNat a) (Int32.ofNat n) (Int32.ofNat 1) (Int32.ofNat (grW r)) (Int32.ofNat (grW r)) s2 = _
        generalize grW r = W at *
        unfold mf_335_393 mf_335_501 mf_335_507
        simp (disch := omega) only [ev_S, ev_P, ↓reduceIte, Nat.reduceEqDiff, Nat.reduceLeDiff, Nat.reduceAdd, Nat.reduceMul, Nat.reduceSub, reduceCtorEq, l32_0, l32_1, l32_2, l32_3, l32_4, l32_5, l32_6, l32_7, l32_8, l32_9, l32_10, l32_11, l32_12, l32_13, l32_14, l32_15, l32_16, l32_17, l32_18, l32_19, l32_20, l32_21, l32_22, l32_23, l32_24, l32_25, l32_26, l32_27, l32_28, l32_29, l32_33, l32_40, l32_41, l32_44, l32_45, l32_59, l32_61, l32_91, l32_93, l32_123, l32_125, b1]
theorem c_plc (hN : 170000 ≤ N) (hh : cHp t u w) (h : cN (cel t) u v (nR r)) (hr : r.length ≤ 64) (hj : j < 64) (hw : w ≤ 2000) (hu : u ≤ 164000) : ∃ t2 v2, cf_107 N X v (Int32.ofNat r.length) (Int32.ofNat j) t = some (t2, .inl (some (.long v2))) ∧ cG t t2 u (u + 1 + (plc r j).length) w [] ∧ cN (cel t2) (u + 1 + (plc r j).length) v2 (nR (plc r j)) := by
  have ga := c_gathered (N := N) (X := X) hh
  have E1 : cf_107 N X v (Int32.ofNat r.length) (Int32.ofNat j) t = cf_107_L2 N X N 0 v (Int32.ofNat r.length) (Int32.ofNat j) (Int32.ofNat w) (Int32.ofNat 0) t := by
    unfold cf_107 cf_107_0 cf_107_7
    simp (disch := omega) only [ev_S, ev_C, ↓reduceIte, Nat.reduceEqDiff, Nat.reduceLeDiff, Nat.reduceAdd, Nat.reduceMul, Nat.reduceSub, reduceCtorEq, l32_0, l32_1, l32_2, l32_3, l32_4, l32_5, l32_6, l32_7, l32_8, l32_9, l32_10, l32_11, l32_12, l32_13, l32_14, l32_15, l32_16, l32_17, l32_18, l32_19, l32_20, l32_21, l32_22, l32_23, l32_24, l32_25, l32_26, l32_27, l32_28, l32_29, l32_33, l32_40, l32_41, l32_44, l32_45, l32_59, l32_61, l32_91, l32_93, l32_123, l32_125, ga]
  rw [E1]
  refine lp (fun F i (t' : cS) => cf_107_L2 N X F 0 v (Int32.ofNat r.length) (Int32.ofNat j) (Int32.ofNat w) (Int32.ofNat i) t') r.length (fun i t' => cG t t' u u w ((plcT r j i).map nZ)) (fun R => ∃ t2 v2, R = some (t2, .inl (some (.long v2))) ∧ cG t t2 u (u + 1 + (plc r j).length) w [] ∧ cN (cel t2) (u + 1 + (plc r j).length) v2 (nR (plc r j))) ?_ ?_ r.length 0 N t (Nat.zero_add _) (by omega) (cG.nil hh)
  · intro F i t1 hi G _
    left
    have n1 : ¬ r.length ≤ i := by omega
    have ia := c_intAt (N := N) (X := X) G.c (cN_iff.mp (G.up h)) hi
    have hcl := plcT_len (r := r) (n := j) (i := i)
    have eg := getD_e (d := 0) hi
    by_cases e : r[i] = Int32.ofNat j
    · obtain ⟨t2, p1, p2⟩ := cG.put (N := N) (X := X) G (by rw [List.length_map]; omega) (cN_Z (z := Int32.ofNat i))
      have p1 : cf_123 N X (tg (Int32.ofNat 0) (Int32.ofNat i)) t1 = _ := p1
      have th := c_thing (N := N) (X := X) (t := t1) (k := Int32.ofNat 0) (a := Int32.ofNat i)
      refine ⟨t2, ?_, ?_⟩
      · rw [plcT_s, eg, if_pos e, List.map_append]
        exact p2
      · show cf_107_12 N X (cf_107_L2 N X F) v (Int32.ofNat r.length) (Int32.ofNat j) (Int32.ofNat w) (Int32.ofNat i) t1 = _
        rw [e] at ia
        unfold cf_107_12 cf_107_18 cf_107_28 cf_107_33 cf_107_43 cf_107_46
        simp (disch := omega) only [ev_S, ev_C, ↓reduceIte, Nat.reduceEqDiff, Nat.reduceLeDiff, Nat.reduceAdd, Nat.reduceMul, Nat.reduceSub, reduceCtorEq, l32_0, l32_1, l32_2, l32_3, l32_4, l32_5, l32_6, l32_7, l32_8, l32_9, l32_10, l32_11, l32_12, l32_13, l32_14, l32_15, l32_16, l32_17, l32_18, l32_19, l32_20, l32_21, l32_22, l32_23, l32_24, l32_25, l32_26, l32_27, l32_28, l32_29, l32_33, l32_40, l32_41, l32_44, l32_45, l32_59, l32_61, l32_91, l32_93, l32_123, l32_125, n1, ia, th, p1]
    · refine ⟨t1, ?_, ?_⟩
      · rw [plcT_s, eg, if_neg e, List.append_nil]
        exact G
      · show cf_107_12 N X (cf_107_L2 N X F) v (Int32.ofNat r.length) (Int32.ofNat j) (Int32.ofNat w) (Int32.ofNat i) t1 = _
        unfold cf_107_12 cf_107_18 cf_107_28 cf_107_46
        simp (disch := omega) only [ev_S, ev_C, ↓reduceIte, Nat.reduceEqDiff, Nat.reduceLeDiff, Nat.reduceAdd, Nat.reduceMul, Nat.reduceSub, reduceCtorEq, l32_0, l32_1, l32_2, l32_3, l32_4, l32_5, l32_6, l32_7, l32_8, l32_9, l32_10, l32_11, l32_12, l32_13, l32_14, l32_15, l32_16, l32_17, l32_18, l32_19, l32_20, l32_21, l32_22, l32_23, l32_24, l32_25, l32_26, l32_27, l32_28, l32_29, l32_33, l32_40, l32_41, l32_44, l32_45, l32_59, l32_61, l32_91, l32_93, l32_123, l32_125, n1, ia, e]
  · intro F t1 G
    have hcl := plcT_len (r := r) (n := j) (i := r.length)
    obtain ⟨t2, v2, b1, b2, b3⟩ := cG.mkRow (N := N) (X := X) hN G (by omega) (by omega) (by omega)
    refine ⟨t2, v2, ?_, b2, b3⟩
    show cf_107_12 N X (cf_107_L2 N X F) v (Int32.ofNat r.length) (Int32.ofNat j) (Int32.ofNat w) (Int32.ofNat r.length) t1 = _
    unfold cf_107_12 cf_107_52 cf_107_62
    simp (disch := omega) only [ev_S, ev_C, ↓reduceIte, Nat.reduceEqDiff, Nat.reduceLeDiff, Nat.reduceAdd, Nat.reduceMul, Nat.reduceSub, reduceCtorEq, l32_0, l32_1, l32_2, l32_3, l32_4, l32_5, l32_6, l32_7, l32_8, l32_9, l32_10, l32_11, l32_12, l32_13, l32_14, l32_15, l32_16, l32_17, l32_18, l32_19, l32_20, l32_21, l32_22, l32_23, l32_24, l32_25, l32_26, l32_27, l32_28, l32_29, l32_33, l32_40, l32_41, l32_44, l32_45, l32_59, l32_61, l32_91, l32_93, l32_123, l32_125, b1]
theorem c_grp (hN : 170000 ≤ N) (hh : cHp t u w) (hx : cN (cel t) u vx x) (wx : wfN x) (hu : u ≤ 162000) (hw : w ≤ 1000) : ∃ t' v, cf_106 N X vx t = some (t', .inl (some (.long v))) ∧ cE t t' u v (if kn x = 1 then ansGp (rvN x) else .inl 3) := by
  have kx := c_kn (N := N) (X := X) hx
  have lx := kn_le (x := x)
  by_cases c1 : kn x = 1
  · rw [if_pos c1]
    have zx := c_sizeN (N := N) (X := X) hh hx
    rw [kn1_sz c1] at zx
    have hr := rv_wf c1 wx
    have ga := c_gathered (N := N) (X := X) hh
    have hxr : cN (cel t) u vx (nR (rvN x)) := cN_iff.mpr (hx.r c1)
    have hxv := hx.r c1
    rw [c1] at kx
    generalize rvN x = r at *
    have E1 : cf_106 N X vx t = cf_106_L11 N X N 0 vx (Int32.ofNat r.length) (gI 0) (Int32.ofNat 0) (Int32.ofNat 0) t := by
      show _ = cf_106_L11 N X N 0 vx (Int32.ofNat r.length) (-Int32.ofNat 1) (Int32.ofNat 0) (Int32.ofNat 0) t
      unfold cf_106 cf_106_0 cf_106_4 cf_106_13 cf_106_21
      simp (disch := omega) only [ev_S, ev_C, ↓reduceIte, Nat.reduceEqDiff, Nat.reduceLeDiff, Nat.reduceAdd, Nat.reduceMul, Nat.reduceSub, reduceCtorEq, l32_0, l32_1, l32_2, l32_3, l32_4, l32_5, l32_6, l32_7, l32_8, l32_9, l32_10, l32_11, l32_12, l32_13, l32_14, l32_15, l32_16, l32_17, l32_18, l32_19, l32_20, l32_21, l32_22, l32_23, l32_24, l32_25, l32_26, l32_27, l32_28, l32_29, l32_33, l32_40, l32_41, l32_44, l32_45, l32_59, l32_61, l32_91, l32_93, l32_123, l32_125, kx, zx]
    have E2 : ∃ l0, lst0 l0 (r.any fun z => decide (z < 0)) ∧ cf_106_L11 N X N 0 vx (Int32.ofNat r.length) (gI 0) (Int32.ofNat 0) (Int32.ofNat 0) t = cf_106_77 N X vx (Int32.ofNat r.length) (gI (grW r)) l0 t := by
      refine lp (fun F i (c : Nat × Int32) => cf_106_L11 N X F 0 vx (Int32.ofNat r.length) (gI c.1) c.2 (Int32.ofNat i) t) r.length (fun i c => c.1 = grW (r.take i) ∧ lst0 c.2 ((r.take i).any fun z => decide (z < 0))) (fun R => ∃ l0, lst0 l0 (r.any fun z => decide (z < 0)) ∧ R = cf_106_77 N X vx (Int32.ofNat r.length) (gI (grW r)) l0 t) ?_ ?_ r.length 0 N (0, Int32.ofNat 0) (Nat.zero_add _) (by omega) ⟨rfl, ⟨⟨fun q => absurd q (show ¬ Int32.ofNat 0 < 0 by decide), fun q => (by cases q)⟩, fun _ => rfl⟩⟩
      · intro F i c hi hP _
        left
        obtain ⟨c0, l0⟩ := c
        obtain ⟨P1, P2⟩ := hP
        have P1 : c0 = _ := P1
        have n1 : ¬ r.length ≤ i := by omega
        have ia := c_intAt (N := N) (X := X) hh hxv hi
        have hc : c0 ≤ 2147483648 := by rw [P1]; exact grW_le
        have em := gI_s (k := c0) (z := r[i]) hc
        refine ⟨(Nat.max c0 (g1 r[i]), if r[i] < l0 then r[i] else l0), ⟨?_, ?_⟩, ?_⟩
        · show Nat.max c0 (g1 r[i]) = _
          rw [grW_s hi, P1]
        · rw [take_any hi]
          exact lst0_s P2
        · show cf_106_31 N X (cf_106_L11 N X F) vx (Int32.ofNat r.length) (gI c0) l0 (Int32.ofNat i) t = cf_106_L11 N X F 0 vx (Int32.ofNat r.length) (gI (Nat.max c0 (g1 r[i]))) (if r[i] < l0 then r[i] else l0) (Int32.ofNat (i + 1)) t
          generalize gI (Nat.max c0 (g1 r[i])) = gm at *
          generalize gI c0 = g0 at *
          unfold cf_106_31 cf_106_37 cf_106_49 cf_106_66
          simp (disch := omega) only [ev_S, ev_C, ↓reduceIte, Nat.reduceEqDiff, Nat.reduceLeDiff, Nat.reduceAdd, Nat.reduceMul, Nat.reduceSub, reduceCtorEq, l32_0, l32_1, l32_2, l32_3, l32_4, l32_5, l32_6, l32_7, l32_8, l32_9, l32_10, l32_11, l32_12, l32_13, l32_14, l32_15, l32_16, l32_17, l32_18, l32_19, l32_20, l32_21, l32_22, l32_23, l32_24, l32_25, l32_26, l32_27, l32_28, l32_29, l32_33, l32_40, l32_41, l32_44, l32_45, l32_59, l32_61, l32_91, l32_93, l32_123, l32_125, n1, ia]
          rw [em]
      · intro F c hP
        obtain ⟨c0, l0⟩ := c
        obtain ⟨P1, P2⟩ := hP
        rw [List.take_length] at P1 P2
        have P1 : c0 = _ := P1
        refine ⟨l0, P2, ?_⟩
        rw [← P1]
        show cf_106_31 N X (cf_106_L11 N X F) vx (Int32.ofNat r.length) (gI c0) l0 (Int32.ofNat r.length) t = _
        generalize gI c0 = g0
        unfold cf_106_31
        simp (disch := omega) only [ev_S, ev_C, ↓reduceIte, Nat.reduceEqDiff, Nat.reduceLeDiff, Nat.reduceAdd, Nat.reduceMul, Nat.reduceSub, reduceCtorEq, l32_0, l32_1, l32_2, l32_3, l32_4, l32_5, l32_6, l32_7, l32_8, l32_9, l32_10, l32_11, l32_12, l32_13, l32_14, l32_15, l32_16, l32_17, l32_18, l32_19, l32_20, l32_21, l32_22, l32_23, l32_24, l32_25, l32_26, l32_27, l32_28, l32_29, l32_33, l32_40, l32_41, l32_44, l32_45, l32_59, l32_61, l32_91, l32_93, l32_123, l32_125]
    obtain ⟨l0, hl0, E2⟩ := E2
    rw [E1, E2]
    have hW := grW_le (r := r)
    unfold ansGp
    unfold cf_106_77
    by_cases c : 20 < grW r
    · rw [if_pos c, if_neg (show ¬ gI (grW r) < 20 from fun q => absurd ((gI_20 hW).mp q) (by omega))]
      refine ⟨t, _, ?_, cE.tr hh⟩
      have b1 := c_rf (N := N) (X := X) (t := t) (k := Int32.ofNat 2)
      unfold cf_106_84 cf_106_88
      simp (disch := omega) only [ev_S, ev_C, ↓reduceIte, Nat.reduceEqDiff, Nat.reduceLeDiff, Nat.reduceAdd, Nat.reduceMul, Nat.reduceSub, reduceCtorEq, l32_0, l32_1, l32_2, l32_3, l32_4, l32_5, l32_6, l32_7, l32_8, l32_9, l32_10, l32_11, l32_12, l32_13, l32_14, l32_15, l32_16, l32_17, l32_18, l32_19, l32_20, l32_21, l32_22, l32_23, l32_24, l32_25, l32_26, l32_27, l32_28, l32_29, l32_33, l32_40, l32_41, l32_44, l32_45, l32_59, l32_61, l32_91, l32_93, l32_123, l32_125, b1]
    · rw [if_neg c, if_pos (show gI (grW r) < 20 from (gI_20 hW).mpr (by omega))]
      unfold cf_106_89
      by_cases d : l0 < 0
      · rw [if_pos (hl0.1.mp d), if_neg (Int32.not_le.mpr d)]
        refine ⟨t, _, ?_, cE.tr hh⟩
        have b1 := c_rf (N := N) (X := X) (t := t) (k := Int32.ofNat 1)
        unfold cf_106_94 cf_106_98
        simp (disch := omega) only [ev_S, ev_C, ↓reduceIte, Nat.reduceEqDiff, Nat.reduceLeDiff, Nat.reduceAdd, Nat.reduceMul, Nat.reduceSub, reduceCtorEq, l32_0, l32_1, l32_2, l32_3, l32_4, l32_5, l32_6, l32_7, l32_8, l32_9, l32_10, l32_11, l32_12, l32_13, l32_14, l32_15, l32_16, l32_17, l32_18, l32_19, l32_20, l32_21, l32_22, l32_23, l32_24, l32_25, l32_26, l32_27, l32_28, l32_29, l32_33, l32_40, l32_41, l32_44, l32_45, l32_59, l32_61, l32_91, l32_93, l32_123, l32_125, b1]
      · rw [if_neg (fun z => d (hl0.1.mpr z)), if_pos (Int32.not_lt.mp d)]
        have hcs := fun k (hk : k ≤ 1000) => plc_sum (r := r) hk r.length
        have E3 : cf_106_99 N X vx (Int32.ofNat r.length) (gI (grW r)) t = cf_106_L2 N X N 0 vx (Int32.ofNat r.length) (gI (grW r)) (Int32.ofNat w) (Int32.ofNat 0) t := by
          generalize gI (grW r) = g0
          unfold cf_106_99 cf_106_106
          simp (disch := omega) only [ev_S, ev_C, ↓reduceIte, Nat.reduceEqDiff, Nat.reduceLeDiff, Nat.reduceAdd, Nat.reduceMul, Nat.reduceSub, reduceCtorEq, l32_0, l32_1, l32_2, l32_3, l32_4, l32_5, l32_6, l32_7, l32_8, l32_9, l32_10, l32_11, l32_12, l32_13, l32_14, l32_15, l32_16, l32_17, l32_18, l32_19, l32_20, l32_21, l32_22, l32_23, l32_24, l32_25, l32_26, l32_27, l32_28, l32_29, l32_33, l32_40, l32_41, l32_44, l32_45, l32_59, l32_61, l32_91, l32_93, l32_123, l32_125, ga]
        rw [E3]
        refine lp (fun F i (t' : cS) => cf_106_L2 N X F 0 vx (Int32.ofNat r.length) (gI (grW r)) (Int32.ofNat w) (Int32.ofNat i) t') (grW r) (fun i t' => cG t t' u (u + (i + (((List.range i).map (plc r)).map List.length).sum)) w (((List.range i).map (plc r)).map nR)) (fun R => ∃ t' v, R = some (t', .inl (some (.long v))) ∧ cE t t' u v (ansM 2 (((List.range (grW r)).map (plc r)).map nR))) ?_ ?_ (grW r) 0 N t (Nat.zero_add _) (by omega) (cG.nil hh)
        · intro F i t1 hi G _
          left
          have hl0' : ((List.range i).map (plc r)).length = i := by rw [List.length_map, List.length_range]
          have hll : (((List.range i).map (plc r)).map nR).length = i := by rw [List.length_map, hl0']
          have hsi := hcs i (by omega)
          have hsi : (((List.range i).map (plc r)).map List.length).sum ≤ r.length := hsi
          have n1 : ¬ gI (grW r) < Int32.ofNat i := fun q => absurd ((gI_lt (by omega) (by omega)).mp q) (by omega)
          obtain ⟨t2, v, r1, r2, r3⟩ := c_plc (N := N) (X := X) (j := i) hN G.c (G.up hxr) hr (by omega) (by rw [hll]; omega) (by omega)
          obtain ⟨t3, p1, p2⟩ := cG.addRow (N := N) (X := X) G r2 r3 (by rw [hll]; omega)
          refine ⟨t3, ?_, ?_⟩
          · rw [range_map_s, List.map_append, List.map_append, List.sum_append]
            have e : u + (i + 1 + ((((List.range i).map (plc r)).map List.length).sum + ([plc r i].map List.length).sum)) = u + (i + (((List.range i).map (plc r)).map List.length).sum) + 1 + (plc r i).length := by
              show u + (i + 1 + (_ + ((plc r i).length + 0))) = _
              omega
            rw [e]
            exact p2
          · show cf_106_111 N X (cf_106_L2 N X F) vx (Int32.ofNat r.length) (gI (grW r)) (Int32.ofNat w) (Int32.ofNat i) t1 = _
            generalize gI (grW r) = g0 at *
            unfold cf_106_111 cf_106_118 cf_106_130 cf_106_133
            simp (disch := omega) only [ev_S, ev_C, ↓reduceIte, Nat.reduceEqDiff, Nat.reduceLeDiff, Nat.reduceAdd, Nat.reduceMul, Nat.reduceSub, reduceCtorEq, l32_0, l32_1, l32_2, l32_3, l32_4, l32_5, l32_6, l32_7, l32_8, l32_9, l32_10, l32_11, l32_12, l32_13, l32_14, l32_15, l32_16, l32_17, l32_18, l32_19, l32_20, l32_21, l32_22, l32_23, l32_24, l32_25, l32_26, l32_27, l32_28, l32_29, l32_33, l32_40, l32_41, l32_44, l32_45, l32_59, l32_61, l32_91, l32_93, l32_123, l32_125, n1, r1, p1]
        · intro F t1 G
          have hlp : ((List.range (grW r)).map (plc r)).length = grW r := by rw [List.length_map, List.length_range]
          have hsi := hcs (grW r) (by omega)
          have hsi : (((List.range (grW r)).map (plc r)).map List.length).sum ≤ r.length := hsi
          obtain ⟨t2, v, b1, b2⟩ := cG.bT (N := N) (X := X) hN G (fun r' hr' => by
            obtain ⟨j, -, rfl⟩ := List.mem_map.mp hr'
            exact Nat.le_trans plcT_len hr) (by rw [hlp]; omega) (by rw [hlp]; omega) (by omega) (by omega)
          refine ⟨t2, v, ?_, b2⟩
          have n1 : gI (grW r) < Int32.ofNat (grW r) := (gI_lt (by omega) (by omega)).mpr (Nat.le_refl _)
          show cf_106_111 N X (cf_106_L2 N X F) vx (Int32.ofNat r.length) (gI (grW r)) (Int32.ofNat w) (Int32.ofNat (grW r)) t1 = _
          generalize gI (grW r) = g0 at *
          unfold cf_106_111 cf_106_139 cf_106_149
          simp (disch := omega) only [ev_S, ev_C, ↓reduceIte, Nat.reduceEqDiff, Nat.reduceLeDiff, Nat.reduceAdd, Nat.reduceMul, Nat.reduceSub, reduceCtorEq, l32_0, l32_1, l32_2, l32_3, l32_4, l32_5, l32_6, l32_7, l32_8, l32_9, l32_10, l32_11, l32_12, l32_13, l32_14, l32_15, l32_16, l32_17, l32_18, l32_19, l32_20, l32_21, l32_22, l32_23, l32_24, l32_25, l32_26, l32_27, l32_28, l32_29, l32_33, l32_40, l32_41, l32_44, l32_45, l32_59, l32_61, l32_91, l32_93, l32_123, l32_125, n1, b1]
  · rw [if_neg c1]
    refine ⟨t, _, ?_, cE.tr hh⟩
    have b1 := c_rf (N := N) (X := X) (t := t) (k := Int32.ofNat 3)
    generalize kn x = kx' at *
    unfold cf_106 cf_106_0 cf_106_4 cf_106_8 cf_106_12
    simp (disch := omega) only [ev_S, ev_C, ↓reduceIte, Nat.reduceEqDiff, Nat.reduceLeDiff, Nat.reduceAdd, Nat.reduceMul, Nat.reduceSub, reduceCtorEq, l32_0, l32_1, l32_2, l32_3, l32_4, l32_5, l32_6, l32_7, l32_8, l32_9, l32_10, l32_11, l32_12, l32_13, l32_14, l32_15, l32_16, l32_17, l32_18, l32_19, l32_20, l32_21, l32_22, l32_23, l32_24, l32_25, l32_26, l32_27, l32_28, l32_29, l32_33, l32_40, l32_41, l32_44, l32_45, l32_59, l32_61, l32_91, l32_93, l32_123, l32_125, kx, c1, b1]
end GRR
