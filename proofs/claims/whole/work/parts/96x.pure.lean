/-! ===== PURE: run (51): pad, cut: the class ===== -/
section PCC
variable {N : Nat} {X : Nat → Option zz_C} {t t' : cS} {u u' w i p : Nat} {x y : Nod} {vx vy v : Int64} {xs : List Nod} {r c : List Int32} {z : Int32}
theorem c_pdR (hN : 170000 ≤ N) (hh : cHp t u w) (h : cN (cel t) u v (nR r)) (hr : r.length ≤ 64) (hp : p ≤ 64) (hw : w ≤ 2000) (hu : u ≤ 164000) : ∃ t2 v2, cf_117 N X v (Int32.ofNat p) t = some (t2, .inl (some (.long v2))) ∧ cG t t2 u (u + 1 + p) w [] ∧ cN (cel t2) (u + 1 + p) v2 (nR (pdr p r)) := by
  have zz := c_sizeN (N := N) (X := X) hh h
  have zz : cf_128 N X v t = some (t, .inl (some (.int (Int32.ofNat r.length)))) := zz
  have ga := c_gathered (N := N) (X := X) hh
  have E1 : cf_117 N X v (Int32.ofNat p) t = cf_117_L2 N X N 0 v (Int32.ofNat p) (Int32.ofNat w) (Int32.ofNat r.length) (Int32.ofNat 0) t := by
    unfold cf_117 cf_117_0 cf_117_7 cf_117_17
    simp (disch := omega) only [ev_S, ev_C, ↓reduceIte, Nat.reduceEqDiff, Nat.reduceLeDiff, Nat.reduceAdd, Nat.reduceMul, Nat.reduceSub, reduceCtorEq, l32_0, l32_1, l32_2, l32_3, l32_4, l32_5, l32_6, l32_7, l32_8, l32_9, l32_10, l32_11, l32_12, l32_13, l32_14, l32_15, l32_16, l32_17, l32_18, l32_19, l32_20, l32_21, l32_22, l32_23, l32_24, l32_25, l32_26, l32_27, l32_28, l32_29, l32_33, l32_40, l32_41, l32_44, l32_45, l32_59, l32_61, l32_91, l32_93, l32_123, l32_125, zz, ga]
  rw [E1]
  refine lp (fun F i (t' : cS) => cf_117_L2 N X F 0 v (Int32.ofNat p) (Int32.ofNat w) (Int32.ofNat r.length) (Int32.ofNat i) t') p (fun i t' => cG t t' u u w ((pdr i r).map nZ)) (fun R => ∃ t2 v2, R = some (t2, .inl (some (.long v2))) ∧ cG t t2 u (u + 1 + p) w [] ∧ cN (cel t2) (u + 1 + p) v2 (nR (pdr p r))) ?_ ?_ p 0 N t (Nat.zero_add _) (by omega) (cG.nil hh)
  · intro F i t1 hi G _
    left
    have n1 : ¬ p ≤ i := by omega
    have hll : ((pdr i r).map nZ).length = i := by rw [List.length_map, pdr_len]
    obtain ⟨t2, p1, p2⟩ := cG.put (N := N) (X := X) G (by rw [hll]; omega) (cN_Z (z := r.getD i 0))
    refine ⟨t2, ?_, ?_⟩
    · unfold pdr
      rw [range_map_s, List.map_append]
      exact p2
    · show cf_117_22 N X (cf_117_L2 N X F) v (Int32.ofNat p) (Int32.ofNat w) (Int32.ofNat r.length) (Int32.ofNat i) t1 = _
      by_cases d : i < r.length
      · have ia := c_intAt (N := N) (X := X) G.c (cN_iff.mp (G.up h)) d
        rw [getD_e d] at p1
        have p1 : cf_123 N X (tg (Int32.ofNat 0) r[i]) t1 = _ := p1
        have th := c_thing (N := N) (X := X) (t := t1) (k := Int32.ofNat 0) (a := r[i])
        have n2 : ¬ r.length ≤ i := by omega
        unfold cf_117_22 cf_117_28 cf_117_40 cf_117_50 cf_117_54 cf_117_57 cf_117_60
        simp (disch := omega) only [ev_S, ev_C, ↓reduceIte, Nat.reduceEqDiff, Nat.reduceLeDiff, Nat.reduceAdd, Nat.reduceMul, Nat.reduceSub, reduceCtorEq, l32_0, l32_1, l32_2, l32_3, l32_4, l32_5, l32_6, l32_7, l32_8, l32_9, l32_10, l32_11, l32_12, l32_13, l32_14, l32_15, l32_16, l32_17, l32_18, l32_19, l32_20, l32_21, l32_22, l32_23, l32_24, l32_25, l32_26, l32_27, l32_28, l32_29, l32_33, l32_40, l32_41, l32_44, l32_45, l32_59, l32_61, l32_91, l32_93, l32_123, l32_125, n1, n2, ia, th, p1]
      · rw [List.getD_eq_getElem?_getD, List.getElem?_eq_none (by omega)] at p1
        have p1 : cf_123 N X (tg (Int32.ofNat 0) (Int32.ofNat 0)) t1 = _ := p1
        have th := c_thing (N := N) (X := X) (t := t1) (k := Int32.ofNat 0) (a := Int32.ofNat 0)
        have n2 : r.length ≤ i := by omega
        unfold cf_117_22 cf_117_28 cf_117_53 cf_117_54 cf_117_57 cf_117_60
        simp (disch := omega) only [ev_S, ev_C, ↓reduceIte, Nat.reduceEqDiff, Nat.reduceLeDiff, Nat.reduceAdd, Nat.reduceMul, Nat.reduceSub, reduceCtorEq, l32_0, l32_1, l32_2, l32_3, l32_4, l32_5, l32_6, l32_7, l32_8, l32_9, l32_10, l32_11, l32_12, l32_13, l32_14, l32_15, l32_16, l32_17, l32_18, l32_19, l32_20, l32_21, l32_22, l32_23, l32_24, l32_25, l32_26, l32_27, l32_28, l32_29, l32_33, l32_40, l32_41, l32_44, l32_45, l32_59, l32_61, l32_91, l32_93, l32_123, l32_125, n1, n2, th, p1]
  · intro F t1 G
    obtain ⟨t2, v2, b1, b2, b3⟩ := cG.mkRow (N := N) (X := X) hN G (by rw [pdr_len]; exact hp) (by omega) (by omega)
    rw [pdr_len] at b2 b3
    refine ⟨t2, v2, ?_, b2, b3⟩
    show cf_117_22 N X (cf_117_L2 N X F) v (Int32.ofNat p) (Int32.ofNat w) (Int32.ofNat r.length) (Int32.ofNat p) t1 = _
    unfold cf_117_22 cf_117_66 cf_117_76
    simp (disch := omega) only [ev_S, ev_C, ↓reduceIte, Nat.reduceEqDiff, Nat.reduceLeDiff, Nat.reduceAdd, Nat.reduceMul, Nat.reduceSub, reduceCtorEq, l32_0, l32_1, l32_2, l32_3, l32_4, l32_5, l32_6, l32_7, l32_8, l32_9, l32_10, l32_11, l32_12, l32_13, l32_14, l32_15, l32_16, l32_17, l32_18, l32_19, l32_20, l32_21, l32_22, l32_23, l32_24, l32_25, l32_26, l32_27, l32_28, l32_29, l32_33, l32_40, l32_41, l32_44, l32_45, l32_59, l32_61, l32_91, l32_93, l32_123, l32_125, b1]
theorem c_pad (hN : 170000 ≤ N) (hh : cHp t u w) (hx : cN (cel t) u vx x) (hy : cN (cel t) u vy y) (wx : wfN x) (hu : u ≤ 162000) (hw : w ≤ 1000) : ∃ t' v, cf_116 N X vx vy t = some (t', .inl (some (.long v))) ∧ cE t t' u v (if kn x = 2 ∧ kn y = 0 then ansPd (tvN x) (ivN y) else .inl 3) := by
  have kx := c_kn (N := N) (X := X) hx
  have ky := c_kn (N := N) (X := X) hy
  have lx := kn_le (x := x)
  have ly := kn_le (x := y)
  by_cases c : kn x = 2 ∧ kn y = 0
  · rw [if_pos c]
    obtain ⟨c2, c0⟩ := c
    have zx := c_sizeN (N := N) (X := X) hh hx
    rw [kn2_sz c2] at zx
    have tw := tv_wf c2 wx
    have ga := c_gathered (N := N) (X := X) hh
    have ey := hy.z c0
    have lo := c_lowOf (N := N) (X := X) (t := t) (k := 0) (a := ivN y)
    rw [← ey] at lo
    rw [c2] at kx
    rw [c0] at ky
    have PT := fun i (hi : i < (tvN x).length) t' u' ys (G : cG t t' u u' w ys) => c_rowT (N := N) (X := X) G.c (G.up hx) c2 hi
    generalize tvN x = q at *
    generalize ivN y = z at *
    have E0 : cf_116 N X vx vy t = cf_116_34 N X vx z (Int32.ofNat q.length) t := by
      unfold cf_116 cf_116_0 cf_116_4 cf_116_8 cf_116_12 cf_116_20 cf_116_24
      simp (disch := omega) only [ev_S, ev_C, ↓reduceIte, Nat.reduceEqDiff, Nat.reduceLeDiff, Nat.reduceAdd, Nat.reduceMul, Nat.reduceSub, reduceCtorEq, l32_0, l32_1, l32_2, l32_3, l32_4, l32_5, l32_6, l32_7, l32_8, l32_9, l32_10, l32_11, l32_12, l32_13, l32_14, l32_15, l32_16, l32_17, l32_18, l32_19, l32_20, l32_21, l32_22, l32_23, l32_24, l32_25, l32_26, l32_27, l32_28, l32_29, l32_33, l32_40, l32_41, l32_44, l32_45, l32_59, l32_61, l32_91, l32_93, l32_123, l32_125, kx, ky, lo, zx]
    rw [E0]
    have b2 := c_rf (N := N) (X := X) (t := t) (k := Int32.ofNat 2)
    have b1 := c_rf (N := N) (X := X) (t := t) (k := Int32.ofNat 1)
    unfold ansPd
    by_cases z0 : z < 0
    · rw [pz_n z0, Nat.mul_zero, if_neg (by omega), if_pos z0]
      refine ⟨t, _, ?_, cE.tr hh⟩
      have y1 := (i32neg z0 (k := 64) (by omega)).2.2.2
      have y2 := (i32neg z0 (k := 0) (by omega)).2.2.1
      have lg := neg_lg (z := z) (k := q.length) (by omega) z0
      unfold cf_116_34 cf_116_43 cf_116_62 cf_116_67 cf_116_71
      simp (disch := omega) only [ev_S, ev_C, ↓reduceIte, Nat.reduceEqDiff, Nat.reduceLeDiff, Nat.reduceAdd, Nat.reduceMul, Nat.reduceSub, reduceCtorEq, l32_0, l32_1, l32_2, l32_3, l32_4, l32_5, l32_6, l32_7, l32_8, l32_9, l32_10, l32_11, l32_12, l32_13, l32_14, l32_15, l32_16, l32_17, l32_18, l32_19, l32_20, l32_21, l32_22, l32_23, l32_24, l32_25, l32_26, l32_27, l32_28, l32_29, l32_33, l32_40, l32_41, l32_44, l32_45, l32_59, l32_61, l32_91, l32_93, l32_123, l32_125, y1, lg, y2, b1, l32_64]
    · obtain ⟨p, hp, ep⟩ := i32nn z0
      subst ep
      rw [pz_o hp]
      by_cases c : 64 < p
      · rw [if_pos (Or.inl c)]
        refine ⟨t, _, ?_, cE.tr hh⟩
        unfold cf_116_34 cf_116_57 cf_116_61
        simp (disch := omega) only [ev_S, ev_C, ↓reduceIte, Nat.reduceEqDiff, Nat.reduceLeDiff, Nat.reduceAdd, Nat.reduceMul, Nat.reduceSub, reduceCtorEq, l32_0, l32_1, l32_2, l32_3, l32_4, l32_5, l32_6, l32_7, l32_8, l32_9, l32_10, l32_11, l32_12, l32_13, l32_14, l32_15, l32_16, l32_17, l32_18, l32_19, l32_20, l32_21, l32_22, l32_23, l32_24, l32_25, l32_26, l32_27, l32_28, l32_29, l32_33, l32_40, l32_41, l32_44, l32_45, l32_59, l32_61, l32_91, l32_93, l32_123, l32_125, c, b2, l32_64]
      · have hmul : q.length * p ≤ 20 * 64 := Nat.mul_le_mul (by omega) (by omega)
        have hpq : Int32.toInt64 (Int32.ofNat q.length) * Int32.toInt64 (Int32.ofNat p) = Int64.ofNat (q.length * p) := by
          rw [i64of32 (by omega), i64of32 hp, Int64.ofNat_mul]
        have hlg : (lg_cmp (Int64.ofNat (q.length * p)) 200 ≤ Int32.ofNat 0) = (q.length * p ≤ 200) := lg_le (b := 200) (by omega) (by omega)
        by_cases d : 200 < q.length * p
        · rw [if_pos (Or.inr d)]
          refine ⟨t, _, ?_, cE.tr hh⟩
          have d' : ¬ q.length * p ≤ 200 := by omega
          unfold cf_116_34 cf_116_43 cf_116_57 cf_116_61
          simp (disch := omega) only [ev_S, ev_C, ↓reduceIte, Nat.reduceEqDiff, Nat.reduceLeDiff, Nat.reduceAdd, Nat.reduceMul, Nat.reduceSub, reduceCtorEq, l32_0, l32_1, l32_2, l32_3, l32_4, l32_5, l32_6, l32_7, l32_8, l32_9, l32_10, l32_11, l32_12, l32_13, l32_14, l32_15, l32_16, l32_17, l32_18, l32_19, l32_20, l32_21, l32_22, l32_23, l32_24, l32_25, l32_26, l32_27, l32_28, l32_29, l32_33, l32_40, l32_41, l32_44, l32_45, l32_59, l32_61, l32_91, l32_93, l32_123, l32_125, c, hpq, hlg, d', b2, l32_64]
        · have d' : q.length * p ≤ 200 := by omega
          rw [if_neg (by omega), if_neg z0]
          have E1 : cf_116_34 N X vx (Int32.ofNat p) (Int32.ofNat q.length) t = cf_116_L6 N X N 0 vx (Int32.ofNat p) (Int32.ofNat q.length) (Int32.ofNat w) (Int32.ofNat 0) t := by
            unfold cf_116_34 cf_116_43 cf_116_62 cf_116_72 cf_116_79
            simp (disch := omega) only [ev_S, ev_C, ↓reduceIte, Nat.reduceEqDiff, Nat.reduceLeDiff, Nat.reduceAdd, Nat.reduceMul, Nat.reduceSub, reduceCtorEq, l32_0, l32_1, l32_2, l32_3, l32_4, l32_5, l32_6, l32_7, l32_8, l32_9, l32_10, l32_11, l32_12, l32_13, l32_14, l32_15, l32_16, l32_17, l32_18, l32_19, l32_20, l32_21, l32_22, l32_23, l32_24, l32_25, l32_26, l32_27, l32_28, l32_29, l32_33, l32_40, l32_41, l32_44, l32_45, l32_59, l32_61, l32_91, l32_93, l32_123, l32_125, c, hpq, hlg, d', ga, l32_64]
          rw [E1]
          have hle : ∀ i, i ≤ q.length → i * p ≤ 200 := fun i hi => Nat.le_trans (Nat.mul_le_mul_right _ hi) d'
          refine lp (fun F i (t' : cS) => cf_116_L6 N X F 0 vx (Int32.ofNat p) (Int32.ofNat q.length) (Int32.ofNat w) (Int32.ofNat i) t') q.length (fun i t' => cG t t' u (u + (i + i * p)) w (((q.take i).map (pdr p)).map nR)) (fun R => ∃ t' v, R = some (t', .inl (some (.long v))) ∧ cE t t' u v (ansM 2 ((q.map (pdr p)).map nR))) ?_ ?_ q.length 0 N t (Nat.zero_add _) (by omega) (by rw [Nat.zero_mul]; exact cG.nil hh)
          · intro F i t1 hi G _
            left
            have hl0 : ((q.take i).map (pdr p)).length = i := len_take_map (by omega)
            have hll : (((q.take i).map (pdr p)).map nR).length = i := by rw [List.length_map, hl0]
            have hsi := hle i (by omega)
            have n1 : ¬ q.length ≤ i := by omega
            obtain ⟨v1, d1, d2⟩ := PT i hi t1 _ _ G
            obtain ⟨t2, v, r1, r2, r3⟩ := c_pdR (N := N) (X := X) (p := p) hN G.c d2 (tw.2.2 _ (List.getElem_mem hi)) (by omega) (by rw [hll]; omega) (by omega)
            obtain ⟨t3, p1, p2⟩ := cG.addRow (N := N) (X := X) G r2 r3 (by rw [hll]; omega)
            refine ⟨t3, ?_, ?_⟩
            · rw [take_map_s hi, List.map_append]
              have e : u + (i + 1 + (i + 1) * p) = u + (i + i * p) + 1 + p := by rw [Nat.succ_mul]; omega
              rw [e]
              exact p2
            · show cf_116_84 N X (cf_116_L6 N X F) vx (Int32.ofNat p) (Int32.ofNat q.length) (Int32.ofNat w) (Int32.ofNat i) t1 = _
              unfold cf_116_84 cf_116_91 cf_116_106 cf_116_111 cf_116_114
              simp (disch := omega) only [ev_S, ev_C, ↓reduceIte, Nat.reduceEqDiff, Nat.reduceLeDiff, Nat.reduceAdd, Nat.reduceMul, Nat.reduceSub, reduceCtorEq, l32_0, l32_1, l32_2, l32_3, l32_4, l32_5, l32_6, l32_7, l32_8, l32_9, l32_10, l32_11, l32_12, l32_13, l32_14, l32_15, l32_16, l32_17, l32_18, l32_19, l32_20, l32_21, l32_22, l32_23, l32_24, l32_25, l32_26, l32_27, l32_28, l32_29, l32_33, l32_40, l32_41, l32_44, l32_45, l32_59, l32_61, l32_91, l32_93, l32_123, l32_125, n1, d1, r1, p1]
          · intro F t1 G
            rw [List.take_length] at G
            have hs := pdr_sum (p := p) q
            have hlp : (q.map (pdr p)).length = q.length := List.length_map _
            obtain ⟨t2, v, b1, b2⟩ := cG.bT (N := N) (X := X) hN G (fun r' hr' => by
              obtain ⟨r, -, rfl⟩ := List.mem_map.mp hr'
              rw [pdr_len]
              omega) (by rw [hlp, hs]; omega) (by rw [hlp, hs]; omega) (by omega) (by omega)
            refine ⟨t2, v, ?_, b2⟩
            show cf_116_84 N X (cf_116_L6 N X F) vx (Int32.ofNat p) (Int32.ofNat q.length) (Int32.ofNat w) (Int32.ofNat q.length) t1 = _
            unfold cf_116_84 cf_116_120 cf_116_130
            simp (disch := omega) only [ev_S, ev_C, ↓reduceIte, Nat.reduceEqDiff, Nat.reduceLeDiff, Nat.reduceAdd, Nat.reduceMul, Nat.reduceSub, reduceCtorEq, l32_0, l32_1, l32_2, l32_3, l32_4, l32_5, l32_6, l32_7, l32_8, l32_9, l32_10, l32_11, l32_12, l32_13, l32_14, l32_15, l32_16, l32_17, l32_18, l32_19, l32_20, l32_21, l32_22, l32_23, l32_24, l32_25, l32_26, l32_27, l32_28, l32_29, l32_33, l32_40, l32_41, l32_44, l32_45, l32_59, l32_61, l32_91, l32_93, l32_123, l32_125, b1]
  · rw [if_neg c]
    refine ⟨t, _, ?_, cE.tr hh⟩
    have b1 := c_rf (N := N) (X := X) (t := t) (k := Int32.ofNat 3)
    generalize kn x = kx' at *
    generalize kn y = ky' at *
    by_cases d : kx' = 2
    · have e : ¬ ky' = 0 := fun z => c ⟨d, z⟩
      unfold cf_116 cf_116_0 cf_116_4 cf_116_8 cf_116_12 cf_116_15 cf_116_19
      simp (disch := omega) only [ev_S, ev_C, ↓reduceIte, Nat.reduceEqDiff, Nat.reduceLeDiff, Nat.reduceAdd, Nat.reduceMul, Nat.reduceSub, reduceCtorEq, l32_0, l32_1, l32_2, l32_3, l32_4, l32_5, l32_6, l32_7, l32_8, l32_9, l32_10, l32_11, l32_12, l32_13, l32_14, l32_15, l32_16, l32_17, l32_18, l32_19, l32_20, l32_21, l32_22, l32_23, l32_24, l32_25, l32_26, l32_27, l32_28, l32_29, l32_33, l32_40, l32_41, l32_44, l32_45, l32_59, l32_61, l32_91, l32_93, l32_123, l32_125, kx, ky, d, e, b1]
    · unfold cf_116 cf_116_0 cf_116_4 cf_116_15 cf_116_19
      simp (disch := omega) only [ev_S, ev_C, ↓reduceIte, Nat.reduceEqDiff, Nat.reduceLeDiff, Nat.reduceAdd, Nat.reduceMul, Nat.reduceSub, reduceCtorEq, l32_0, l32_1, l32_2, l32_3, l32_4, l32_5, l32_6, l32_7, l32_8, l32_9, l32_10, l32_11, l32_12, l32_13, l32_14, l32_15, l32_16, l32_17, l32_18, l32_19, l32_20, l32_21, l32_22, l32_23, l32_24, l32_25, l32_26, l32_27, l32_28, l32_29, l32_33, l32_40, l32_41, l32_44, l32_45, l32_59, l32_61, l32_91, l32_93, l32_123, l32_125, kx, d, b1]
theorem c_str {o : Nat} (hN : 170000 ≤ N) (hh : cHp t u w) (h : cN (cel t) u v (nR r)) (hr : r.length ≤ 64) (hop : o + p ≤ r.length) (hw : w ≤ 2000) (hu : u ≤ 164000) : ∃ t2 v2, cf_112 N X v (Int32.ofNat o) (Int32.ofNat (o + p)) t = some (t2, .inl (some (.long v2))) ∧ cG t t2 u (u + 1 + p) w [] ∧ cN (cel t2) (u + 1 + p) v2 (nR ((r.drop o).take p)) := by
  have ga := c_gathered (N := N) (X := X) hh
  have hpc : ∀ j, j ≤ p → ((r.drop o).take j).length = j := fun j hj => by
    rw [List.length_take, List.length_drop]
    omega
  have E1 : cf_112 N X v (Int32.ofNat o) (Int32.ofNat (o + p)) t = cf_112_L2 N X N 0 v (Int32.ofNat (o + p)) (Int32.ofNat w) (Int32.ofNat (o + 0)) t := by
    unfold cf_112 cf_112_0 cf_112_7
    simp (disch := omega) only [ev_S, ev_C, ↓reduceIte, Nat.reduceEqDiff, Nat.reduceLeDiff, Nat.reduceAdd, Nat.reduceMul, Nat.reduceSub, reduceCtorEq, l32_0, l32_1, l32_2, l32_3, l32_4, l32_5, l32_6, l32_7, l32_8, l32_9, l32_10, l32_11, l32_12, l32_13, l32_14, l32_15, l32_16, l32_17, l32_18, l32_19, l32_20, l32_21, l32_22, l32_23, l32_24, l32_25, l32_26, l32_27, l32_28, l32_29, l32_33, l32_40, l32_41, l32_44, l32_45, l32_59, l32_61, l32_91, l32_93, l32_123, l32_125, ga]
    rfl
  rw [E1]
  refine lp (fun F j (t' : cS) => cf_112_L2 N X F 0 v (Int32.ofNat (o + p)) (Int32.ofNat w) (Int32.ofNat (o + j)) t') p (fun j t' => cG t t' u u w (((r.drop o).take j).map nZ)) (fun R => ∃ t2 v2, R = some (t2, .inl (some (.long v2))) ∧ cG t t2 u (u + 1 + p) w [] ∧ cN (cel t2) (u + 1 + p) v2 (nR ((r.drop o).take p))) ?_ ?_ p 0 N t (Nat.zero_add _) (by omega) (cG.nil hh)
  · intro F j t1 hj G _
    left
    have n1 : ¬ o + p ≤ o + j := by omega
    have hoj : o + j < r.length := by omega
    have pa := c_partR (N := N) (X := X) G.c (cN_iff.mp (G.up h)) hoj
    have hjd : j < (r.drop o).length := by rw [List.length_drop]; omega
    have hll : (((r.drop o).take j).map nZ).length = j := by rw [List.length_map, hpc j (by omega)]
    obtain ⟨t2, p1, p2⟩ := cG.put (N := N) (X := X) G (by rw [hll]; omega) (cN_Z (z := r[o + j]))
    have p1 : cf_123 N X (tg (Int32.ofNat 0) r[o + j]) t1 = _ := p1
    refine ⟨t2, ?_, ?_⟩
    · rw [take_map_s hjd, List.getElem_drop]
      exact p2
    · show cf_112_12 N X (cf_112_L2 N X F) v (Int32.ofNat (o + p)) (Int32.ofNat w) (Int32.ofNat (o + j)) t1 = _
      unfold cf_112_12 cf_112_19 cf_112_33 cf_112_36
      simp (disch := omega) only [ev_S, ev_C, ↓reduceIte, Nat.reduceEqDiff, Nat.reduceLeDiff, Nat.reduceAdd, Nat.reduceMul, Nat.reduceSub, reduceCtorEq, l32_0, l32_1, l32_2, l32_3, l32_4, l32_5, l32_6, l32_7, l32_8, l32_9, l32_10, l32_11, l32_12, l32_13, l32_14, l32_15, l32_16, l32_17, l32_18, l32_19, l32_20, l32_21, l32_22, l32_23, l32_24, l32_25, l32_26, l32_27, l32_28, l32_29, l32_33, l32_40, l32_41, l32_44, l32_45, l32_59, l32_61, l32_91, l32_93, l32_123, l32_125, n1, pa, p1]
      rfl
  · intro F t1 G
    have hpl := hpc p (Nat.le_refl _)
    obtain ⟨t2, v2, b1, b2, b3⟩ := cG.mkRow (N := N) (X := X) hN G (by rw [hpl]; omega) (by omega) (by omega)
    rw [hpl] at b2 b3
    refine ⟨t2, v2, ?_, b2, b3⟩
    show cf_112_12 N X (cf_112_L2 N X F) v (Int32.ofNat (o + p)) (Int32.ofNat w) (Int32.ofNat (o + p)) t1 = _
    unfold cf_112_12 cf_112_42 cf_112_52
    simp (disch := omega) only [ev_S, ev_C, ↓reduceIte, Nat.reduceEqDiff, Nat.reduceLeDiff, Nat.reduceAdd, Nat.reduceMul, Nat.reduceSub, reduceCtorEq, l32_0, l32_1, l32_2, l32_3, l32_4, l32_5, l32_6, l32_7, l32_8, l32_9, l32_10, l32_11, l32_12, l32_13, l32_14, l32_15, l32_16, l32_17, l32_18, l32_19, l32_20, l32_21, l32_22, l32_23, l32_24, l32_25, l32_26, l32_27, l32_28, l32_29, l32_33, l32_40, l32_41, l32_44, l32_45, l32_59, l32_61, l32_91, l32_93, l32_123, l32_125, b1]
theorem c_cut (hN : 170000 ≤ N) (hh : cHp t u w) (hx : cN (cel t) u vx x) (hy : cN (cel t) u vy y) (wx : wfN x) (wy : wfN y) (hu : u ≤ 162000) (hw : w ≤ 1000) : ∃ t' v, cf_111 N X vx vy t = some (t', .inl (some (.long v))) ∧ cE t t' u v (if kn x = 1 ∧ kn y = 1 then ansX (rvN x) (rvN y) else .inl 3) := by
  have kx := c_kn (N := N) (X := X) hx
  have ky := c_kn (N := N) (X := X) hy
  have lx := kn_le (x := x)
  have ly := kn_le (x := y)
  by_cases c : kn x = 1 ∧ kn y = 1
  · rw [if_pos c]
    obtain ⟨c1, d1⟩ := c
    have zx := c_sizeN (N := N) (X := X) hh hx
    rw [kn1_sz c1] at zx
    have zy := c_sizeN (N := N) (X := X) hh hy
    rw [kn1_sz d1] at zy
    have hr := rv_wf c1 wx
    have hc := rv_wf d1 wy
    have ga := c_gathered (N := N) (X := X) hh
    have hxr : cN (cel t) u vx (nR (rvN x)) := cN_iff.mpr (hx.r c1)
    have UP : ∀ {t' u' ys}, cG t t' u u' w ys → cV (cel t') u' vy (vR (rvN y)) := fun {t' u' ys} G => (G.up hy).r d1
    have hyv := hy.r d1
    rw [c1] at kx
    rw [d1] at ky
    generalize rvN x = r at *
    generalize rvN y = c at *
    have hsb : ∀ i, offs c i ≤ 2147483648 * i := fun i => by
      have : ∀ l : List Int32, (l.map pz).sum ≤ 2147483648 * l.length := fun l => by
        induction l with
        | nil => exact Nat.le_refl _
        | cons z l ih =>
          have h1 := pz_lt (z := z)
          rw [List.map_cons, List.sum_cons, List.length_cons]
          omega
      have h3 := this (c.take i)
      rw [List.length_take] at h3
      show ((c.take i).map pz).sum ≤ _
      omega
    have E1 : cf_111 N X vx vy t = cf_111_L17 N X N 0 vx vy (Int32.ofNat c.length) (Int32.ofNat 0) (Int64.ofNat 0) (Int32.ofNat 0) t := by
      unfold cf_111 cf_111_0 cf_111_4 cf_111_8 cf_111_12 cf_111_21 cf_111_29
      simp (disch := omega) only [ev_S, ev_C, ↓reduceIte, Nat.reduceEqDiff, Nat.reduceLeDiff, Nat.reduceAdd, Nat.reduceMul, Nat.reduceSub, reduceCtorEq, l32_0, l32_1, l32_2, l32_3, l32_4, l32_5, l32_6, l32_7, l32_8, l32_9, l32_10, l32_11, l32_12, l32_13, l32_14, l32_15, l32_16, l32_17, l32_18, l32_19, l32_20, l32_21, l32_22, l32_23, l32_24, l32_25, l32_26, l32_27, l32_28, l32_29, l32_33, l32_40, l32_41, l32_44, l32_45, l32_59, l32_61, l32_91, l32_93, l32_123, l32_125, kx, ky, zy]
      rfl
    have E2 : ∃ l0 S, lst0 l0 (c.any fun z => decide (z < 0)) ∧ ((c.any fun z => decide (z < 0)) = false → S = Int64.ofNat (c.map pz).sum) ∧ cf_111_L17 N X N 0 vx vy (Int32.ofNat c.length) (Int32.ofNat 0) (Int64.ofNat 0) (Int32.ofNat 0) t = cf_111_86 N X vx vy (Int32.ofNat c.length) l0 S t := by
      refine lp (fun F i (k : Int32 × Int64) => cf_111_L17 N X F 0 vx vy (Int32.ofNat c.length) k.1 k.2 (Int32.ofNat i) t) c.length (fun i k => lst0 k.1 ((c.take i).any fun z => decide (z < 0)) ∧ (((c.take i).any fun z => decide (z < 0)) = false → k.2 = Int64.ofNat (offs c i))) (fun R => ∃ l0 S, lst0 l0 (c.any fun z => decide (z < 0)) ∧ ((c.any fun z => decide (z < 0)) = false → S = Int64.ofNat (c.map pz).sum) ∧ R = cf_111_86 N X vx vy (Int32.ofNat c.length) l0 S t) ?_ ?_ c.length 0 N (Int32.ofNat 0, Int64.ofNat 0) (Nat.zero_add _) (by omega) ⟨⟨⟨fun q => absurd q (show ¬ Int32.ofNat 0 < 0 by decide), fun q => (by cases q)⟩, fun _ => rfl⟩, fun _ => rfl⟩
      · intro F i k hi hP _
        left
        obtain ⟨l0, S0⟩ := k
        obtain ⟨P1, P2⟩ := hP
        have n1 : ¬ c.length ≤ i := by omega
        have ia := c_intAt (N := N) (X := X) hh hyv hi
        refine ⟨(if c[i] < l0 then c[i] else l0, S0 + Int32.toInt64 c[i]), ⟨?_, fun h => ?_⟩, ?_⟩
        · rw [take_any hi]
          exact lst0_s P1
        · rw [take_any hi, Bool.or_eq_false_iff] at h
          have P2 : S0 = _ := P2 h.1
          show S0 + Int32.toInt64 c[i] = _
          rw [offs_s hi, P2]
          have hnn := decide_eq_false_iff_not.mp h.2
          obtain ⟨p, hp, ep⟩ := i32nn hnn
          rw [ep, pz_o hp, i64of32 hp, ← Int64.ofNat_add]
        · show cf_111_40 N X (cf_111_L17 N X F) vx vy (Int32.ofNat c.length) l0 S0 (Int32.ofNat i) t = cf_111_L17 N X F 0 vx vy (Int32.ofNat c.length) (if c[i] < l0 then c[i] else l0) (S0 + Int32.toInt64 c[i]) (Int32.ofNat (i + 1)) t
          unfold cf_111_40 cf_111_47 cf_111_59 cf_111_76
          simp (disch := omega) only [ev_S, ev_C, ↓reduceIte, Nat.reduceEqDiff, Nat.reduceLeDiff, Nat.reduceAdd, Nat.reduceMul, Nat.reduceSub, reduceCtorEq, l32_0, l32_1, l32_2, l32_3, l32_4, l32_5, l32_6, l32_7, l32_8, l32_9, l32_10, l32_11, l32_12, l32_13, l32_14, l32_15, l32_16, l32_17, l32_18, l32_19, l32_20, l32_21, l32_22, l32_23, l32_24, l32_25, l32_26, l32_27, l32_28, l32_29, l32_33, l32_40, l32_41, l32_44, l32_45, l32_59, l32_61, l32_91, l32_93, l32_123, l32_125, n1, ia]
      · intro F k hP
        obtain ⟨l0, S0⟩ := k
        obtain ⟨P1, P2⟩ := hP
        rw [List.take_length] at P1 P2
        refine ⟨l0, S0, P1, fun h => ?_, ?_⟩
        · have this : S0 = Int64.ofNat (offs c c.length) := P2 h
          rw [this]
          show Int64.ofNat ((c.take c.length).map pz).sum = _
          rw [List.take_length]
        · show cf_111_40 N X (cf_111_L17 N X F) vx vy (Int32.ofNat c.length) l0 S0 (Int32.ofNat c.length) t = _
          unfold cf_111_40
          simp (disch := omega) only [ev_S, ev_C, ↓reduceIte, Nat.reduceEqDiff, Nat.reduceLeDiff, Nat.reduceAdd, Nat.reduceMul, Nat.reduceSub, reduceCtorEq, l32_0, l32_1, l32_2, l32_3, l32_4, l32_5, l32_6, l32_7, l32_8, l32_9, l32_10, l32_11, l32_12, l32_13, l32_14, l32_15, l32_16, l32_17, l32_18, l32_19, l32_20, l32_21, l32_22, l32_23, l32_24, l32_25, l32_26, l32_27, l32_28, l32_29, l32_33, l32_40, l32_41, l32_44, l32_45, l32_59, l32_61, l32_91, l32_93, l32_123, l32_125]
    obtain ⟨l0, S, hl0, hS, E2⟩ := E2
    rw [E1, E2]
    unfold ansX
    by_cases d : 20 < c.length
    · rw [if_pos d]
      refine ⟨t, _, ?_, cE.tr hh⟩
      have b1 := c_rf (N := N) (X := X) (t := t) (k := Int32.ofNat 2)
      have d' : ¬ c.length ≤ 20 := by omega
      unfold cf_111_86 cf_111_93 cf_111_97
      simp (disch := omega) only [ev_S, ev_C, ↓reduceIte, Nat.reduceEqDiff, Nat.reduceLeDiff, Nat.reduceAdd, Nat.reduceMul, Nat.reduceSub, reduceCtorEq, l32_0, l32_1, l32_2, l32_3, l32_4, l32_5, l32_6, l32_7, l32_8, l32_9, l32_10, l32_11, l32_12, l32_13, l32_14, l32_15, l32_16, l32_17, l32_18, l32_19, l32_20, l32_21, l32_22, l32_23, l32_24, l32_25, l32_26, l32_27, l32_28, l32_29, l32_33, l32_40, l32_41, l32_44, l32_45, l32_59, l32_61, l32_91, l32_93, l32_123, l32_125, d', b1]
    · rw [if_neg d]
      have d' : c.length ≤ 20 := by omega
      have E3 : cf_111_86 N X vx vy (Int32.ofNat c.length) l0 S t = cf_111_98 N X vx vy (Int32.ofNat c.length) l0 S t := by
        unfold cf_111_86
        simp (disch := omega) only [ev_S, ev_C, ↓reduceIte, Nat.reduceEqDiff, Nat.reduceLeDiff, Nat.reduceAdd, Nat.reduceMul, Nat.reduceSub, reduceCtorEq, l32_0, l32_1, l32_2, l32_3, l32_4, l32_5, l32_6, l32_7, l32_8, l32_9, l32_10, l32_11, l32_12, l32_13, l32_14, l32_15, l32_16, l32_17, l32_18, l32_19, l32_20, l32_21, l32_22, l32_23, l32_24, l32_25, l32_26, l32_27, l32_28, l32_29, l32_33, l32_40, l32_41, l32_44, l32_45, l32_59, l32_61, l32_91, l32_93, l32_123, l32_125, d']
      rw [E3]
      unfold cf_111_98
      by_cases e : l0 < 0
      · rw [if_pos (hl0.1.mp e), if_neg (Int32.not_le.mpr e)]
        refine ⟨t, _, ?_, cE.tr hh⟩
        have b1 := c_rf (N := N) (X := X) (t := t) (k := Int32.ofNat 1)
        unfold cf_111_103 cf_111_107
        simp (disch := omega) only [ev_S, ev_C, ↓reduceIte, Nat.reduceEqDiff, Nat.reduceLeDiff, Nat.reduceAdd, Nat.reduceMul, Nat.reduceSub, reduceCtorEq, l32_0, l32_1, l32_2, l32_3, l32_4, l32_5, l32_6, l32_7, l32_8, l32_9, l32_10, l32_11, l32_12, l32_13, l32_14, l32_15, l32_16, l32_17, l32_18, l32_19, l32_20, l32_21, l32_22, l32_23, l32_24, l32_25, l32_26, l32_27, l32_28, l32_29, l32_33, l32_40, l32_41, l32_44, l32_45, l32_59, l32_61, l32_91, l32_93, l32_123, l32_125, b1]
      · have hany : ¬ (c.any fun z => decide (z < 0)) = true := fun z => e (hl0.1.mpr z)
        rw [if_neg hany, if_pos (Int32.not_lt.mp e)]
        have hn := Bool.eq_false_iff.mpr hany
        have hS := hS hn
        have hsl := hsb c.length
        have hsl : ((c.take c.length).map pz).sum ≤ 2147483648 * c.length := hsl
        rw [List.take_length] at hsl
        have hlg : lg_cmp S (Int32.toInt64 (Int32.ofNat r.length)) = 0 ↔ (c.map pz).sum = r.length := by
          rw [lgI_eq, hS, i64of32 (by omega)]
          constructor
          · intro h
            have h2 := congrArg Int64.toInt h
            rw [i64t (by omega), i64t (by omega)] at h2
            omega
          · intro h
            rw [h]
        have E4 : cf_111_108 N X vx vy (Int32.ofNat c.length) S t = cf_111_118 N X vx vy (Int32.ofNat c.length) S (Int32.ofNat r.length) t := by
          unfold cf_111_108
          simp (disch := omega) only [ev_S, ev_C, ↓reduceIte, Nat.reduceEqDiff, Nat.reduceLeDiff, Nat.reduceAdd, Nat.reduceMul, Nat.reduceSub, reduceCtorEq, l32_0, l32_1, l32_2, l32_3, l32_4, l32_5, l32_6, l32_7, l32_8, l32_9, l32_10, l32_11, l32_12, l32_13, l32_14, l32_15, l32_16, l32_17, l32_18, l32_19, l32_20, l32_21, l32_22, l32_23, l32_24, l32_25, l32_26, l32_27, l32_28, l32_29, l32_33, l32_40, l32_41, l32_44, l32_45, l32_59, l32_61, l32_91, l32_93, l32_123, l32_125, zx]
        rw [E4]
        unfold cf_111_118
        by_cases g : (c.map pz).sum = r.length
        · rw [if_pos (hlg.mpr g), if_neg (show ¬ ¬ (c.map pz).sum = r.length from fun z => z g)]
          have hnn : ∀ i (hi : i < c.length), ∃ p, p < 2147483648 ∧ c[i] = Int32.ofNat p := fun i hi => by
            refine i32nn (fun y => ?_)
            rw [any_mem hi (decide_eq_true y)] at hn
            cases hn
          have E5 : cf_111_128 N X vx vy (Int32.ofNat c.length) t = cf_111_L4 N X N 0 vx (Int32.ofNat (offs c 0)) (Int32.ofNat 0) vy (Int32.ofNat c.length) (Int32.ofNat w) t := by
            unfold cf_111_128 cf_111_135
            simp (disch := omega) only [ev_S, ev_C, ↓reduceIte, Nat.reduceEqDiff, Nat.reduceLeDiff, Nat.reduceAdd, Nat.reduceMul, Nat.reduceSub, reduceCtorEq, l32_0, l32_1, l32_2, l32_3, l32_4, l32_5, l32_6, l32_7, l32_8, l32_9, l32_10, l32_11, l32_12, l32_13, l32_14, l32_15, l32_16, l32_17, l32_18, l32_19, l32_20, l32_21, l32_22, l32_23, l32_24, l32_25, l32_26, l32_27, l32_28, l32_29, l32_33, l32_40, l32_41, l32_44, l32_45, l32_59, l32_61, l32_91, l32_93, l32_123, l32_125, ga]
            rfl
          rw [E5]
          refine lp (fun F i (t' : cS) => cf_111_L4 N X F 0 vx (Int32.ofNat (offs c i)) (Int32.ofNat i) vy (Int32.ofNat c.length) (Int32.ofNat w) t') c.length (fun i t' => cG t t' u (u + (i + offs c i)) w (((List.range i).map (pce r c)).map nR)) (fun R => ∃ t' v, R = some (t', .inl (some (.long v))) ∧ cE t t' u v (ansM 2 (((List.range c.length).map (pce r c)).map nR))) ?_ ?_ c.length 0 N t (Nat.zero_add _) (by omega) (cG.nil hh)
          · intro F i t1 hi G _
            left
            have hl0 : ((List.range i).map (pce r c)).length = i := by rw [List.length_map, List.length_range]
            have hll : (((List.range i).map (pce r c)).map nR).length = i := by rw [List.length_map, hl0]
            obtain ⟨p, hp, ep⟩ := hnn i hi
            have hoff := offs_le g hi
            rw [ep, pz_o hp] at hoff
            have n1 : ¬ c.length ≤ i := by omega
            have ia := c_intAt (N := N) (X := X) G.c (UP G) hi
            rw [ep] at ia
            obtain ⟨t2, v, r1, r2, r3⟩ := c_str (N := N) (X := X) (o := offs c i) (p := p) hN G.c (G.up hxr) hr hoff (by rw [hll]; omega) (by omega)
            obtain ⟨t3, p1, p2⟩ := cG.addRow (N := N) (X := X) G r2 r3 (by rw [hll]; omega)
            have ia3 := c_intAt (N := N) (X := X) p2.c (UP p2) hi
            rw [ep] at ia3
            have hpe : pce r c i = (r.drop (offs c i)).take p := by
              unfold pce
              rw [getD_e hi, ep, pz_o hp]
            refine ⟨t3, ?_, ?_⟩
            · rw [range_map_s, List.map_append, hpe, offs_s hi, ep, pz_o hp]
              have e : u + (i + 1 + (offs c i + p)) = u + (i + offs c i) + 1 + p := by omega
              rw [e]
              exact p2
            · show cf_111_143 N X (cf_111_L4 N X F) vx vy (Int32.ofNat c.length) (Int32.ofNat w) (Int32.ofNat (offs c i)) (Int32.ofNat i) t1 = _
              rw [offs_s hi, ep, pz_o hp]
              generalize offs c i = o at *
              unfold cf_111_143 cf_111_150 cf_111_170 cf_111_174 cf_111_177 cf_111_189
              simp (disch := omega) only [ev_S, ev_C, ↓reduceIte, Nat.reduceEqDiff, Nat.reduceLeDiff, Nat.reduceAdd, Nat.reduceMul, Nat.reduceSub, reduceCtorEq, l32_0, l32_1, l32_2, l32_3, l32_4, l32_5, l32_6, l32_7, l32_8, l32_9, l32_10, l32_11, l32_12, l32_13, l32_14, l32_15, l32_16, l32_17, l32_18, l32_19, l32_20, l32_21, l32_22, l32_23, l32_24, l32_25, l32_26, l32_27, l32_28, l32_29, l32_33, l32_40, l32_41, l32_44, l32_45, l32_59, l32_61, l32_91, l32_93, l32_123, l32_125, n1, ia, r1, p1, ia3]
          · intro F t1 G
            have hs := pce_sum (r := r) g c.length (Nat.le_refl _)
            have hlp : ((List.range c.length).map (pce r c)).length = c.length := by rw [List.length_map, List.length_range]
            have ho : offs c c.length = r.length := by
              show ((c.take c.length).map pz).sum = _
              rw [List.take_length]
              exact g
            rw [ho] at G
            obtain ⟨t2, v, b1, b2⟩ := cG.bT (N := N) (X := X) hN G (fun r' hr' => by
              obtain ⟨j, hj, rfl⟩ := List.mem_map.mp hr'
              rw [pce_len g (List.mem_range.mp hj)]
              have := offs_le g (List.mem_range.mp hj)
              omega) (by rw [hlp, hs, ho]; omega) (by rw [hlp, hs, ho]; omega) (by omega) (by omega)
            refine ⟨t2, v, ?_, b2⟩
            show cf_111_143 N X (cf_111_L4 N X F) vx vy (Int32.ofNat c.length) (Int32.ofNat w) (Int32.ofNat (offs c c.length)) (Int32.ofNat c.length) t1 = _
            generalize offs c c.length = o at *
            unfold cf_111_143 cf_111_198 cf_111_208
            simp (disch := omega) only [ev_S, ev_C, ↓reduceIte, Nat.reduceEqDiff, Nat.reduceLeDiff, Nat.reduceAdd, Nat.reduceMul, Nat.reduceSub, reduceCtorEq, l32_0, l32_1, l32_2, l32_3, l32_4, l32_5, l32_6, l32_7, l32_8, l32_9, l32_10, l32_11, l32_12, l32_13, l32_14, l32_15, l32_16, l32_17, l32_18, l32_19, l32_20, l32_21, l32_22, l32_23, l32_24, l32_25, l32_26, l32_27, l32_28, l32_29, l32_33, l32_40, l32_41, l32_44, l32_45, l32_59, l32_61, l32_91, l32_93, l32_123, l32_125, b1]
        · rw [if_neg (fun z => g (hlg.mp z)), if_pos (show ¬ (c.map pz).sum = r.length from g)]
          refine ⟨t, _, ?_, cE.tr hh⟩
          have b1 := c_rf (N := N) (X := X) (t := t) (k := Int32.ofNat 4)
          unfold cf_111_123 cf_111_127
          simp (disch := omega) only [ev_S, ev_C, ↓reduceIte, Nat.reduceEqDiff, Nat.reduceLeDiff, Nat.reduceAdd, Nat.reduceMul, Nat.reduceSub, reduceCtorEq, l32_0, l32_1, l32_2, l32_3, l32_4, l32_5, l32_6, l32_7, l32_8, l32_9, l32_10, l32_11, l32_12, l32_13, l32_14, l32_15, l32_16, l32_17, l32_18, l32_19, l32_20, l32_21, l32_22, l32_23, l32_24, l32_25, l32_26, l32_27, l32_28, l32_29, l32_33, l32_40, l32_41, l32_44, l32_45, l32_59, l32_61, l32_91, l32_93, l32_123, l32_125, b1]
  · rw [if_neg c]
    refine ⟨t, _, ?_, cE.tr hh⟩
    have b1 := c_rf (N := N) (X := X) (t := t) (k := Int32.ofNat 3)
    generalize kn x = kx' at *
    generalize kn y = ky' at *
    by_cases d : kx' = 1
    · have e : ¬ ky' = 1 := fun z => c ⟨d, z⟩
      unfold cf_111 cf_111_0 cf_111_4 cf_111_8 cf_111_12 cf_111_16 cf_111_20
      simp (disch := omega) only [ev_S, ev_C, ↓reduceIte, Nat.reduceEqDiff, Nat.reduceLeDiff, Nat.reduceAdd, Nat.reduceMul, Nat.reduceSub, reduceCtorEq, l32_0, l32_1, l32_2, l32_3, l32_4, l32_5, l32_6, l32_7, l32_8, l32_9, l32_10, l32_11, l32_12, l32_13, l32_14, l32_15, l32_16, l32_17, l32_18, l32_19, l32_20, l32_21, l32_22, l32_23, l32_24, l32_25, l32_26, l32_27, l32_28, l32_29, l32_33, l32_40, l32_41, l32_44, l32_45, l32_59, l32_61, l32_91, l32_93, l32_123, l32_125, kx, ky, d, e, b1]
    · unfold cf_111 cf_111_0 cf_111_4 cf_111_16 cf_111_20
      simp (disch := omega) only [ev_S, ev_C, ↓reduceIte, Nat.reduceEqDiff, Nat.reduceLeDiff, Nat.reduceAdd, Nat.reduceMul, Nat.reduceSub, reduceCtorEq, l32_0, l32_1, l32_2, l32_3, l32_4, l32_5, l32_6, l32_7, l32_8, l32_9, l32_10, l32_11, l32_12, l32_13, l32_14, l32_15, l32_16, l32_17, l32_18, l32_19, l32_20, l32_21, l32_22, l32_23, l32_24, l32_25, l32_26, l32_27, l32_28, l32_29, l32_33, l32_40, l32_41, l32_44, l32_45, l32_59, l32_61, l32_91, l32_93, l32_123, l32_125, kx, d, b1]
end PCC
