/-! ===== PURE: run (49): pad, cut: the reference ===== -/
theorem lgI_eq {a b : Int64} : (lg_cmp a b = 0) ↔ a = b := by
  unfold lg_cmp
  by_cases c : a > b
  · rw [if_pos c]
    refine ⟨fun q => absurd q (by decide), fun q => ?_⟩
    rw [q] at c
    exact absurd c (Int64.lt_irrefl)
  · rw [if_neg c]
    by_cases d : a = b
    · rw [if_pos d]
      exact ⟨fun _ => d, fun _ => rfl⟩
    · rw [if_neg d]
      exact ⟨fun q => absurd q (by decide), fun q => absurd q d⟩
theorem neg_lg {z : Int32} {k : Nat} (hk : k ≤ 64) (h : z < 0) : lg_cmp (Int32.toInt64 (Int32.ofNat k) * Int32.toInt64 z) 200 ≤ Int32.ofNat 0 := by
  refine lgI_le.mpr ?_
  have h1 := i32m h
  have h2 := Int32.le_toInt z
  have e : (Int32.toInt64 (Int32.ofNat k) * Int32.toInt64 z).toInt = (k : Int) * z.toInt := by
    rw [Int64.toInt_mul, Int32.toInt_toInt64, Int32.toInt_toInt64, i32t (by omega)]
    have b1 : (k : Int) * z.toInt ≤ 0 := Int.mul_nonpos_of_nonneg_of_nonpos (by omega) (by omega)
    have b2 : -(64 * 2147483648) ≤ (k : Int) * z.toInt := by
      have q1 : (k : Int) * (-2147483648) ≤ (k : Int) * z.toInt := Int.mul_le_mul_of_nonneg_left (by omega) (by omega)
      omega
    exact Int.bmod_eq_of_le (by omega) (by omega)
  rw [e]
  have b1 : (k : Int) * z.toInt ≤ 0 := Int.mul_nonpos_of_nonneg_of_nonpos (by omega) (by omega)
  exact Int.le_trans b1 (by decide)
def pdr (p : Nat) (r : List Int32) : List Int32 := (List.range p).map fun j => r.getD j 0
def ansPd (q : List (List Int32)) (z : Int32) : Ans := if 64 < pz z ∨ 200 < q.length * pz z then .inl 2 else if z < 0 then .inl 1 else ansM 2 ((q.map (pdr (pz z))).map nR)
theorem pdr_len {p : Nat} {r : List Int32} : (pdr p r).length = p := by
  unfold pdr
  rw [List.length_map, List.length_range]
theorem pdr_sum {p : Nat} : ∀ q : List (List Int32), ((q.map (pdr p)).map List.length).sum = q.length * p
  | [] => by rw [List.length_nil, Nat.zero_mul]; rfl
  | r :: q => by
    rw [List.map_cons, List.map_cons, List.sum_cons, pdr_sum q, pdr_len, List.length_cons, Nat.succ_mul]
    omega
section PAD
variable {N : Nat} {s s' : mS} {n f f' m a b i : Nat} {x y : Nod} {xs ys : List Nod} {r : List Int32} {z : Int32}
theorem r_pad (hN : 170000 ≤ N) (H : rA s n f m ys) (La : LayN (s.2.2.1 47) (Rf f) a x) (c2 : kn x = 2) (wx : wfN x) : ∃ s', mf_342 N (Int32.ofNat a) z (Int32.ofNat n) s = some (s', none) ∧ rE s s' n f m (ansPd (tvN x) z) := by
  have H' := H
  obtain ⟨-, H2, H3, H4, H5, H6, H7, H8, H9, H10⟩ := H'
  have G0 : rG s (mI s 51 (Int32.ofNat n)) n f f [] := rG.nil H2
  have T := fun k => rA.trb (N := N) H s vfr.rf rfl rfl rfl k
  have tw := tv_wf c2 wx
  have esz := kn2_sz c2
  have za := H.g.size (N := N) La (by omega)
  rw [esz] at za
  have SZ := fun s2 fx xs (G : rG s s2 n f fx xs) => rG.size (N := N) G La (by omega)
  rw [esz] at SZ
  have PT := fun i (hi : i < (tvN x).length) s2 fx xs (G : rG s s2 n f fx xs) => rG.partT (N := N) G La (by omega) c2 hi
  generalize tvN x = q at *
  unfold ansPd
  by_cases z0 : z < 0
  · rw [pz_n z0, Nat.mul_zero, if_neg (by omega), if_pos z0]
    obtain ⟨b1, b2⟩ := T 1
    refine ⟨_, ?_, b2⟩
    have y1 := (i32neg z0 (k := 64) (by omega)).2.2.2
    have y2 := (i32neg z0 (k := 0) (by omega)).2.2.1
    have lg := neg_lg (z := z) (k := q.length) (by omega) z0
    unfold mf_342 mf_342_0 mf_342_6 mf_342_11 mf_342_26 mf_342_27 mf_342_34 mf_342_38 mf_342_48 mf_342_49 mf_342_56
    simp (disch := omega) only [ev_S, ev_P, ↓reduceIte, Nat.reduceEqDiff, Nat.reduceLeDiff, Nat.reduceAdd, Nat.reduceMul, Nat.reduceSub, reduceCtorEq, l32_0, l32_1, l32_2, l32_3, l32_4, l32_5, l32_6, l32_7, l32_8, l32_9, l32_10, l32_11, l32_12, l32_13, l32_14, l32_15, l32_16, l32_17, l32_18, l32_19, l32_20, l32_21, l32_22, l32_23, l32_24, l32_25, l32_26, l32_27, l32_28, l32_29, l32_33, l32_40, l32_41, l32_44, l32_45, l32_59, l32_61, l32_91, l32_93, l32_123, l32_125, y1, za, lg, y2, b1, l32_64]
  · obtain ⟨p, hp, ep⟩ := i32nn z0
    subst ep
    rw [pz_o hp]
    by_cases c : 64 < p
    · rw [if_pos (Or.inl c)]
      obtain ⟨b1, b2⟩ := T 2
      refine ⟨_, ?_, b2⟩
      unfold mf_342 mf_342_0 mf_342_22 mf_342_27 mf_342_38 mf_342_44 mf_342_49 mf_342_56
      simp (disch := omega) only [ev_S, ev_P, ↓reduceIte, Nat.reduceEqDiff, Nat.reduceLeDiff, Nat.reduceAdd, Nat.reduceMul, Nat.reduceSub, reduceCtorEq, l32_0, l32_1, l32_2, l32_3, l32_4, l32_5, l32_6, l32_7, l32_8, l32_9, l32_10, l32_11, l32_12, l32_13, l32_14, l32_15, l32_16, l32_17, l32_18, l32_19, l32_20, l32_21, l32_22, l32_23, l32_24, l32_25, l32_26, l32_27, l32_28, l32_29, l32_33, l32_40, l32_41, l32_44, l32_45, l32_59, l32_61, l32_91, l32_93, l32_123, l32_125, c, b1, l32_64]
    · have hmul : q.length * p ≤ 20 * 64 := Nat.mul_le_mul (by omega) (by omega)
      have hpq : Int32.toInt64 (Int32.ofNat q.length) * Int32.toInt64 (Int32.ofNat p) = Int64.ofNat (q.length * p) := by
        rw [i64of32 (by omega), i64of32 hp, Int64.ofNat_mul]
      have hlg : (lg_cmp (Int64.ofNat (q.length * p)) 200 ≤ Int32.ofNat 0) = (q.length * p ≤ 200) := lg_le (b := 200) (by omega) (by omega)
      by_cases d : 200 < q.length * p
      · rw [if_pos (Or.inr d)]
        obtain ⟨b1, b2⟩ := T 2
        refine ⟨_, ?_, b2⟩
        have d' : ¬ q.length * p ≤ 200 := by omega
        unfold mf_342 mf_342_0 mf_342_6 mf_342_11 mf_342_22 mf_342_27 mf_342_38 mf_342_44 mf_342_49 mf_342_56
        simp (disch := omega) only [ev_S, ev_P, ↓reduceIte, Nat.reduceEqDiff, Nat.reduceLeDiff, Nat.reduceAdd, Nat.reduceMul, Nat.reduceSub, reduceCtorEq, l32_0, l32_1, l32_2, l32_3, l32_4, l32_5, l32_6, l32_7, l32_8, l32_9, l32_10, l32_11, l32_12, l32_13, l32_14, l32_15, l32_16, l32_17, l32_18, l32_19, l32_20, l32_21, l32_22, l32_23, l32_24, l32_25, l32_26, l32_27, l32_28, l32_29, l32_33, l32_40, l32_41, l32_44, l32_45, l32_59, l32_61, l32_91, l32_93, l32_123, l32_125, c, za, hpq, hlg, d', b1, l32_64]
      · have d' : q.length * p ≤ 200 := by omega
        rw [if_neg (by omega), if_neg z0]
        have E1 : mf_342 N (Int32.ofNat a) (Int32.ofNat p) (Int32.ofNat n) s = mf_342_L7 N N 0 (Int32.ofNat a) (Int32.ofNat p) (Int32.ofNat n) (Int32.ofNat 0) (Int32.ofNat 0) (Int32.ofNat 0) (Int32.ofNat 0) (mI s 51 (Int32.ofNat n)) := by
          unfold mf_342 mf_342_0 mf_342_6 mf_342_11 mf_342_26 mf_342_27 mf_342_34 mf_342_57
          simp (disch := omega) only [ev_S, ev_P, ↓reduceIte, Nat.reduceEqDiff, Nat.reduceLeDiff, Nat.reduceAdd, Nat.reduceMul, Nat.reduceSub, reduceCtorEq, l32_0, l32_1, l32_2, l32_3, l32_4, l32_5, l32_6, l32_7, l32_8, l32_9, l32_10, l32_11, l32_12, l32_13, l32_14, l32_15, l32_16, l32_17, l32_18, l32_19, l32_20, l32_21, l32_22, l32_23, l32_24, l32_25, l32_26, l32_27, l32_28, l32_29, l32_33, l32_40, l32_41, l32_44, l32_45, l32_59, l32_61, l32_91, l32_93, l32_123, l32_125, c, za, hpq, hlg, d', l32_64]
        rw [E1]
        have hle : ∀ i, i ≤ q.length → i * p ≤ 200 := fun i hi => Nat.le_trans (Nat.mul_le_mul_right _ hi) d'
        refine lpo (fun F i (s' : mS) => mf_342_L7 N F 0 (Int32.ofNat a) (Int32.ofNat p) (Int32.ofNat n) (Int32.ofNat i) (Int32.ofNat 0) (Int32.ofNat 0) (Int32.ofNat 0) s') q.length 67 (fun i s' => rG s s' n f (f + (2 * ((q.take i).map (pdr p)).length + (((q.take i).map (pdr p)).map List.length).sum)) (((q.take i).map (pdr p)).map nR)) (fun R => ∃ s', R = some (s', none) ∧ rE s s' n f m (ansM 2 ((q.map (pdr p)).map nR))) ?_ ?_ q.length 0 N _ (Nat.zero_add _) (by omega) G0
        · intro F i s2 hi G
          left
          have hl0 : ((q.take i).map (pdr p)).length = i := len_take_map (by omega)
          have hll : (((q.take i).map (pdr p)).map nR).length = i := by rw [List.length_map, hl0]
          have hsi : (((q.take i).map (pdr p)).map List.length).sum ≤ 200 := by
            rw [pdr_sum, List.length_take, Nat.min_eq_left (by omega)]
            exact hle i (by omega)
          have zz := SZ s2 _ _ G
          have n1 : ¬ q.length ≤ i := by omega
          obtain ⟨c', d1, d2⟩ := PT i hi s2 _ _ G
          have hq64 := tw.2.2 _ (List.getElem_mem hi)
          have hlt := rowlt d2
          have sp := G.1.1
          rw [hll] at sp
          have E3 : mf_342_L7 N (F + 67) 0 (Int32.ofNat a) (Int32.ofNat p) (Int32.ofNat n) (Int32.ofNat i) (Int32.ofNat 0) (Int32.ofNat 0) (Int32.ofNat 0) s2 = mf_342_L7 N (F + 66) 1 (Int32.ofNat a) (Int32.ofNat p) (Int32.ofNat n) (Int32.ofNat i) (Int32.ofNat c') (Int32.ofNat (n + i)) (Int32.ofNat 0) s2 := by
            show mf_342_65 N (mf_342_L7 N (F + 66)) (Int32.ofNat a) (Int32.ofNat p) (Int32.ofNat n) (Int32.ofNat i) s2 = _
            unfold mf_342_65 mf_342_72 mf_342_75 mf_342_82
            simp (disch := omega) only [ev_S, ev_P, ↓reduceIte, Nat.reduceEqDiff, Nat.reduceLeDiff, Nat.reduceAdd, Nat.reduceMul, Nat.reduceSub, reduceCtorEq, l32_0, l32_1, l32_2, l32_3, l32_4, l32_5, l32_6, l32_7, l32_8, l32_9, l32_10, l32_11, l32_12, l32_13, l32_14, l32_15, l32_16, l32_17, l32_18, l32_19, l32_20, l32_21, l32_22, l32_23, l32_24, l32_25, l32_26, l32_27, l32_28, l32_29, l32_33, l32_40, l32_41, l32_44, l32_45, l32_59, l32_61, l32_91, l32_93, l32_123, l32_125, zz, n1, d1, sp]
          rw [E3]
          rcases lpi (fun F j (s' : mS) => mf_342_L7 N F 1 (Int32.ofNat a) (Int32.ofNat p) (Int32.ofNat n) (Int32.ofNat i) (Int32.ofNat c') (Int32.ofNat (n + i)) (Int32.ofNat j) s') p (fun j s' => rG s s' n f (f + (2 * ((q.take i).map (pdr p)).length + (((q.take i).map (pdr p)).map List.length).sum)) (((q.take i).map (pdr p)).map nR ++ (pdr j q[i]).map nZ)) (fun _ => False) (by
            intro F j s3 hj G3
            left
            have z3 := G3.size (N := N) d2 (by omega)
            have z3 : mf_77 N (Int32.ofNat c') s3 = some (s3, some (.int (Int32.ofNat q[i].length))) := z3
            have n2 : ¬ p ≤ j := by omega
            obtain ⟨s4, p1, p2⟩ := rG.pushZ (N := N) G3 (by rw [List.length_append, hll, List.length_map, pdr_len]; omega) (q[i].getD j 0)
            refine ⟨s4, ?_, ?_⟩
            · unfold pdr
              rw [range_map_s, List.map_append, ← List.append_assoc]
              exact p2
            · show mf_342_93 N (mf_342_L7 N F) (Int32.ofNat a) (Int32.ofNat p) (Int32.ofNat n) (Int32.ofNat i) (Int32.ofNat c') (Int32.ofNat (n + i)) (Int32.ofNat j) s3 = _
              by_cases hjq : j < q[i].length
              · have cc := G3.cell d2 hjq
                rw [List.getD_eq_getElem?_getD, List.getElem?_eq_getElem hjq] at p1
                have p1 : mf_291 N (Int32.ofNat 0) q[i][j] s3 = _ := p1
                have n3 : ¬ q[i].length ≤ j := by omega
                unfold mf_342_93 mf_342_99 mf_342_109 mf_342_112 mf_342_128 mf_342_131
                simp (disch := omega) only [ev_S, ev_P, ↓reduceIte, Nat.reduceEqDiff, Nat.reduceLeDiff, Nat.reduceAdd, Nat.reduceMul, Nat.reduceSub, reduceCtorEq, l32_0, l32_1, l32_2, l32_3, l32_4, l32_5, l32_6, l32_7, l32_8, l32_9, l32_10, l32_11, l32_12, l32_13, l32_14, l32_15, l32_16, l32_17, l32_18, l32_19, l32_20, l32_21, l32_22, l32_23, l32_24, l32_25, l32_26, l32_27, l32_28, l32_29, l32_33, l32_40, l32_41, l32_44, l32_45, l32_59, l32_61, l32_91, l32_93, l32_123, l32_125, n2, z3, n3, cc, p1]
              · rw [List.getD_eq_getElem?_getD, List.getElem?_eq_none (by omega)] at p1
                have p1 : mf_291 N (Int32.ofNat 0) (Int32.ofNat 0) s3 = _ := p1
                have n3 : q[i].length ≤ j := by omega
                unfold mf_342_93 mf_342_99 mf_342_109 mf_342_127 mf_342_128 mf_342_131
                simp (disch := omega) only [ev_S, ev_P, ↓reduceIte, Nat.reduceEqDiff, Nat.reduceLeDiff, Nat.reduceAdd, Nat.reduceMul, Nat.reduceSub, reduceCtorEq, l32_0, l32_1, l32_2, l32_3, l32_4, l32_5, l32_6, l32_7, l32_8, l32_9, l32_10, l32_11, l32_12, l32_13, l32_14, l32_15, l32_16, l32_17, l32_18, l32_19, l32_20, l32_21, l32_22, l32_23, l32_24, l32_25, l32_26, l32_27, l32_28, l32_29, l32_33, l32_40, l32_41, l32_44, l32_45, l32_59, l32_61, l32_91, l32_93, l32_123, l32_125, n2, z3, n3, p1]) p 0 (F + 66 - p) s2 (Nat.zero_add _) (by rw [show (pdr 0 q[i]).map nZ = [] from rfl, List.append_nil]; exact G) with ⟨s3, G3, e3⟩ | h
          · rw [show F + 66 - p + p = F + 66 by omega] at e3
            obtain ⟨s4, w1, w2⟩ := rG.row (N := N) hN G3 (by rw [hll, pdr_len]; omega) (by rw [pdr_len]; omega)
            rw [hll] at w1
            rw [pdr_len] at w2
            refine ⟨s4, F + 65 - p, ?_, by omega, ?_⟩
            · rw [take_map_s hi, List.map_append, List.map_append, List.length_append, List.sum_append]
              have e : f + (2 * (((q.take i).map (pdr p)).length + [pdr p q[i]].length) + ((((q.take i).map (pdr p)).map List.length).sum + ([pdr p q[i]].map List.length).sum)) = f + (2 * ((q.take i).map (pdr p)).length + (((q.take i).map (pdr p)).map List.length).sum) + 2 + p := by
                show f + (2 * (_ + 1) + (_ + ((pdr p q[i]).length + 0))) = _
                rw [pdr_len]
                omega
              rw [e]
              exact w2
            · show mf_342_L7 N (F + 66) 1 _ _ _ _ _ _ _ s2 = _
              rw [e3, show F + 66 - p = F + 65 - p + 1 by omega]
              show mf_342_93 N (mf_342_L7 N (F + 65 - p)) (Int32.ofNat a) (Int32.ofNat p) (Int32.ofNat n) (Int32.ofNat i) (Int32.ofNat c') (Int32.ofNat (n + i)) (Int32.ofNat p) s3 = _
              unfold mf_342_93 mf_342_137 mf_342_143
              simp (disch := omega) only [ev_S, ev_P, ↓reduceIte, Nat.reduceEqDiff, Nat.reduceLeDiff, Nat.reduceAdd, Nat.reduceMul, Nat.reduceSub, reduceCtorEq, l32_0, l32_1, l32_2, l32_3, l32_4, l32_5, l32_6, l32_7, l32_8, l32_9, l32_10, l32_11, l32_12, l32_13, l32_14, l32_15, l32_16, l32_17, l32_18, l32_19, l32_20, l32_21, l32_22, l32_23, l32_24, l32_25, l32_26, l32_27, l32_28, l32_29, l32_33, l32_40, l32_41, l32_44, l32_45, l32_59, l32_61, l32_91, l32_93, l32_123, l32_125, w1]
          · exact h.elim
        · intro F s2 G
          rw [List.take_length] at G
          have hs := pdr_sum (p := p) q
          have hlp : (q.map (pdr p)).length = q.length := List.length_map _
          have zz := SZ s2 _ _ G
          obtain ⟨s3, b1, b2⟩ := rA.bTab (N := N) hN H G (fun r' hr' => by
            obtain ⟨r, -, rfl⟩ := List.mem_map.mp hr'
            rw [pdr_len]
            omega) (by rw [hlp, hs]; omega) (by rw [hlp]; omega)
          refine ⟨s3, ?_, b2⟩
          show mf_342_65 N (mf_342_L7 N F) (Int32.ofNat a) (Int32.ofNat p) (Int32.ofNat n) (Int32.ofNat q.length) s2 = _
          unfold mf_342_65 mf_342_72 mf_342_149 mf_342_155
          simp (disch := omega) only [ev_S, ev_P, ↓reduceIte, Nat.reduceEqDiff, Nat.reduceLeDiff, Nat.reduceAdd, Nat.reduceMul, Nat.reduceSub, reduceCtorEq, l32_0, l32_1, l32_2, l32_3, l32_4, l32_5, l32_6, l32_7, l32_8, l32_9, l32_10, l32_11, l32_12, l32_13, l32_14, l32_15, l32_16, l32_17, l32_18, l32_19, l32_20, l32_21, l32_22, l32_23, l32_24, l32_25, l32_26, l32_27, l32_28, l32_29, l32_33, l32_40, l32_41, l32_44, l32_45, l32_59, l32_61, l32_91, l32_93, l32_123, l32_125, zz, b1]
end PAD
