/-! ===== PURE: run (48): pick, find, outer: the class ===== -/
section PFC
variable {N : Nat} {X : Nat → Option zz_C} {t t' : cS} {u u' w i : Nat} {x y : Nod} {vx vy v : Int64} {xs : List Nod} {r r' : List Int32} {z : Int32}
theorem c_pick (hN : 170000 ≤ N) (hh : cHp t u w) (hx : cN (cel t) u vx x) (hy : cN (cel t) u vy y) (wx : wfN x) (wy : wfN y) (dx : x.1 ≤ 4) (hu : u ≤ 162000) (hw : w ≤ 1000) : ∃ t' v, cf_113 N X vx vy t = some (t', .inl (some (.long v))) ∧ cE t t' u v (if kn x = 0 ∨ ¬ kn y = 1 then .inl 3 else ansP x (rvN y)) := by
  have kx := c_kn (N := N) (X := X) hx
  have ky := c_kn (N := N) (X := X) hy
  have lx := kn_le (x := x)
  have ly := kn_le (x := y)
  by_cases c : kn x = 0 ∨ ¬ kn y = 1
  · rw [if_pos c]
    refine ⟨t, _, ?_, cE.tr hh⟩
    have b1 := c_rf (N := N) (X := X) (t := t) (k := Int32.ofNat 3)
    generalize kn x = kx' at *
    generalize kn y = ky' at *
    by_cases d : kx' = 0
    · unfold cf_113 cf_113_0 cf_113_4 cf_113_15 cf_113_19
      simp (disch := omega) only [ev_S, ev_C, ↓reduceIte, Nat.reduceEqDiff, Nat.reduceLeDiff, Nat.reduceAdd, Nat.reduceMul, Nat.reduceSub, reduceCtorEq, l32_0, l32_1, l32_2, l32_3, l32_4, l32_5, l32_6, l32_7, l32_8, l32_9, l32_10, l32_11, l32_12, l32_13, l32_14, l32_15, l32_16, l32_17, l32_18, l32_19, l32_20, l32_21, l32_22, l32_23, l32_24, l32_25, l32_26, l32_27, l32_28, l32_29, l32_33, l32_40, l32_41, l32_44, l32_45, l32_59, l32_61, l32_91, l32_93, l32_123, l32_125, kx, d, b1]
    · have e : ¬ ky' = 1 := c.resolve_left d
      unfold cf_113 cf_113_0 cf_113_4 cf_113_7 cf_113_11 cf_113_15 cf_113_19
      simp (disch := omega) only [ev_S, ev_C, ↓reduceIte, Nat.reduceEqDiff, Nat.reduceLeDiff, Nat.reduceAdd, Nat.reduceMul, Nat.reduceSub, reduceCtorEq, l32_0, l32_1, l32_2, l32_3, l32_4, l32_5, l32_6, l32_7, l32_8, l32_9, l32_10, l32_11, l32_12, l32_13, l32_14, l32_15, l32_16, l32_17, l32_18, l32_19, l32_20, l32_21, l32_22, l32_23, l32_24, l32_25, l32_26, l32_27, l32_28, l32_29, l32_33, l32_40, l32_41, l32_44, l32_45, l32_59, l32_61, l32_91, l32_93, l32_123, l32_125, kx, ky, d, e, b1]
  · rw [if_neg c]
    have h0 : ¬ kn x = 0 := fun z => c (Or.inl z)
    have c1 : kn y = 1 := Classical.byContradiction (fun z => c (Or.inr z))
    have zx := c_sizeN (N := N) (X := X) hh hx
    have zy := c_sizeN (N := N) (X := X) hh hy
    rw [kn1_sz c1] at zy
    have hr := rv_wf c1 wy
    have s64 := wf64 wx
    have hpl : (pts x).length = szN x := pts_len
    have ga := c_gathered (N := N) (X := X) hh
    have UP : ∀ {t' u' ys}, cG t t' u u' w ys → cV (cel t') u' vy (vR (rvN y)) := fun {t' u' ys} G => (G.up hy).r c1
    rw [c1] at ky
    generalize rvN y = r at *
    have E1 : cf_113 N X vx vy t = cf_113_40 N X vx vy (Int32.ofNat (szN x)) (Int32.ofNat (szN x)) (Int32.ofNat r.length) t := by
      generalize kn x = kx' at *
      unfold cf_113 cf_113_0 cf_113_4 cf_113_7 cf_113_11 cf_113_20 cf_113_28
      simp (disch := omega) only [ev_S, ev_C, ↓reduceIte, Nat.reduceEqDiff, Nat.reduceLeDiff, Nat.reduceAdd, Nat.reduceMul, Nat.reduceSub, reduceCtorEq, l32_0, l32_1, l32_2, l32_3, l32_4, l32_5, l32_6, l32_7, l32_8, l32_9, l32_10, l32_11, l32_12, l32_13, l32_14, l32_15, l32_16, l32_17, l32_18, l32_19, l32_20, l32_21, l32_22, l32_23, l32_24, l32_25, l32_26, l32_27, l32_28, l32_29, l32_33, l32_40, l32_41, l32_44, l32_45, l32_59, l32_61, l32_91, l32_93, l32_123, l32_125, kx, ky, h0, zx, zy]
    rw [E1]
    unfold ansP
    by_cases d : szN x = r.length
    · rw [if_pos d]
      have E2 : cf_113_40 N X vx vy (Int32.ofNat (szN x)) (Int32.ofNat (szN x)) (Int32.ofNat r.length) t = cf_113_L5 N X N 0 vx vy (Int32.ofNat (pts x).length) (Int32.ofNat w) (Int32.ofNat 0) t := by
        rw [hpl]
        unfold cf_113_40 cf_113_48 cf_113_55
        rw [d]
        simp (disch := omega) only [ev_S, ev_C, ↓reduceIte, Nat.reduceEqDiff, Nat.reduceLeDiff, Nat.reduceAdd, Nat.reduceMul, Nat.reduceSub, reduceCtorEq, l32_0, l32_1, l32_2, l32_3, l32_4, l32_5, l32_6, l32_7, l32_8, l32_9, l32_10, l32_11, l32_12, l32_13, l32_14, l32_15, l32_16, l32_17, l32_18, l32_19, l32_20, l32_21, l32_22, l32_23, l32_24, l32_25, l32_26, l32_27, l32_28, l32_29, l32_33, l32_40, l32_41, l32_44, l32_45, l32_59, l32_61, l32_91, l32_93, l32_123, l32_125, ga]
      rw [E2]
      refine lp (fun F i (t' : cS) => cf_113_L5 N X F 0 vx vy (Int32.ofNat (pts x).length) (Int32.ofNat w) (Int32.ofNat i) t') (pts x).length (fun i t' => cG t t' u u w (pckT x r i)) (fun R => ∃ t' v, R = some (t', .inl (some (.long v))) ∧ cE t t' u v (ansM (kn x) (pck x r))) ?_ ?_ (pts x).length 0 N t (Nat.zero_add _) (by omega) (cG.nil hh)
      · intro F i t1 hi G _
        left
        have hir : i < r.length := by omega
        have n1 : ¬ (pts x).length ≤ i := by omega
        have ia := c_intAt (N := N) (X := X) G.c (UP G) hir
        have hll := pckT_len (x := x) (r := r) (i := i)
        by_cases e : r[i] = 0
        · refine ⟨t1, ?_, ?_⟩
          · rw [pckT_s hi hir, if_pos e, List.append_nil]
            exact G
          · show cf_113_60 N X (cf_113_L5 N X F) vx vy (Int32.ofNat (pts x).length) (Int32.ofNat w) (Int32.ofNat i) t1 = _
            rw [e] at ia
            have ia : cf_130 N X vy (Int32.ofNat i) t1 = some (t1, .inl (some (.int (Int32.ofNat 0)))) := ia
            unfold cf_113_60 cf_113_67 cf_113_77 cf_113_97
            simp (disch := omega) only [ev_S, ev_C, ↓reduceIte, Nat.reduceEqDiff, Nat.reduceLeDiff, Nat.reduceAdd, Nat.reduceMul, Nat.reduceSub, reduceCtorEq, l32_0, l32_1, l32_2, l32_3, l32_4, l32_5, l32_6, l32_7, l32_8, l32_9, l32_10, l32_11, l32_12, l32_13, l32_14, l32_15, l32_16, l32_17, l32_18, l32_19, l32_20, l32_21, l32_22, l32_23, l32_24, l32_25, l32_26, l32_27, l32_28, l32_29, l32_33, l32_40, l32_41, l32_44, l32_45, l32_59, l32_61, l32_91, l32_93, l32_123, l32_125, n1, ia]
        · obtain ⟨v', d1, d2⟩ := c_part (N := N) (X := X) G.c (G.up hx) (i := i) hi
          obtain ⟨t2, p1, p2⟩ := cG.put (N := N) (X := X) G (by omega) d2
          refine ⟨t2, ?_, ?_⟩
          · rw [pckT_s hi hir, if_neg e]
            exact p2
          · show cf_113_60 N X (cf_113_L5 N X F) vx vy (Int32.ofNat (pts x).length) (Int32.ofNat w) (Int32.ofNat i) t1 = _
            have e' : ¬ r[i] = Int32.ofNat 0 := e
            unfold cf_113_60 cf_113_67 cf_113_77 cf_113_80 cf_113_94 cf_113_97
            simp (disch := omega) only [ev_S, ev_C, ↓reduceIte, Nat.reduceEqDiff, Nat.reduceLeDiff, Nat.reduceAdd, Nat.reduceMul, Nat.reduceSub, reduceCtorEq, l32_0, l32_1, l32_2, l32_3, l32_4, l32_5, l32_6, l32_7, l32_8, l32_9, l32_10, l32_11, l32_12, l32_13, l32_14, l32_15, l32_16, l32_17, l32_18, l32_19, l32_20, l32_21, l32_22, l32_23, l32_24, l32_25, l32_26, l32_27, l32_28, l32_29, l32_33, l32_40, l32_41, l32_44, l32_45, l32_59, l32_61, l32_91, l32_93, l32_123, l32_125, n1, ia, e', d1, p1]
      · intro F t1 G
        rw [pckT_all (by omega)] at G
        have kx' := c_kn (N := N) (X := X) (G.up hx)
        have hll := pck_len (x := x) (r := r)
        obtain ⟨t2, v, b1, b2⟩ := cG.build (N := N) (X := X) (k := kn x) hN G (pts_ok h0 (fun y hy => pck_mem hy)) (fun y hy => wf_pts wx y (pck_mem hy)) (fun y hy => Nat.le_trans (pts_lv y (pck_mem hy)) dx) (by omega) (by omega) (by omega) (by omega) (by omega)
        refine ⟨t2, v, ?_, b2⟩
        show cf_113_60 N X (cf_113_L5 N X F) vx vy (Int32.ofNat (pts x).length) (Int32.ofNat w) (Int32.ofNat (pts x).length) t1 = _
        generalize kn x = kk at *
        unfold cf_113_60 cf_113_103 cf_113_111 cf_113_116
        simp (disch := omega) only [ev_S, ev_C, ↓reduceIte, Nat.reduceEqDiff, Nat.reduceLeDiff, Nat.reduceAdd, Nat.reduceMul, Nat.reduceSub, reduceCtorEq, l32_0, l32_1, l32_2, l32_3, l32_4, l32_5, l32_6, l32_7, l32_8, l32_9, l32_10, l32_11, l32_12, l32_13, l32_14, l32_15, l32_16, l32_17, l32_18, l32_19, l32_20, l32_21, l32_22, l32_23, l32_24, l32_25, l32_26, l32_27, l32_28, l32_29, l32_33, l32_40, l32_41, l32_44, l32_45, l32_59, l32_61, l32_91, l32_93, l32_123, l32_125, kx', b1]
    · rw [if_neg d]
      refine ⟨t, _, ?_, cE.tr hh⟩
      have b1 := c_rf (N := N) (X := X) (t := t) (k := Int32.ofNat 4)
      generalize szN x = sx at *
      unfold cf_113_40 cf_113_43 cf_113_47
      simp (disch := omega) only [ev_S, ev_C, ↓reduceIte, Nat.reduceEqDiff, Nat.reduceLeDiff, Nat.reduceAdd, Nat.reduceMul, Nat.reduceSub, reduceCtorEq, l32_0, l32_1, l32_2, l32_3, l32_4, l32_5, l32_6, l32_7, l32_8, l32_9, l32_10, l32_11, l32_12, l32_13, l32_14, l32_15, l32_16, l32_17, l32_18, l32_19, l32_20, l32_21, l32_22, l32_23, l32_24, l32_25, l32_26, l32_27, l32_28, l32_29, l32_33, l32_40, l32_41, l32_44, l32_45, l32_59, l32_61, l32_91, l32_93, l32_123, l32_125, d, b1]
theorem c_fnd (hN : 170000 ≤ N) (hh : cHp t u w) (h : cN (cel t) u v (nR r)) (hr : r.length ≤ 64) : cf_115 N X v z t = some (t, .inl (some (.int (fndV r z)))) := by
  have zz := c_sizeN (N := N) (X := X) hh h
  have zz : cf_128 N X v t = some (t, .inl (some (.int (Int32.ofNat r.length)))) := zz
  have hcv := cN_iff.mp h
  have E1 : cf_115 N X v z t = cf_115_L2 N X N 0 v z (Int32.ofNat r.length) (Int32.ofNat 0) t := by
    unfold cf_115 cf_115_0 cf_115_8
    simp (disch := omega) only [ev_S, ev_C, ↓reduceIte, Nat.reduceEqDiff, Nat.reduceLeDiff, Nat.reduceAdd, Nat.reduceMul, Nat.reduceSub, reduceCtorEq, l32_0, l32_1, l32_2, l32_3, l32_4, l32_5, l32_6, l32_7, l32_8, l32_9, l32_10, l32_11, l32_12, l32_13, l32_14, l32_15, l32_16, l32_17, l32_18, l32_19, l32_20, l32_21, l32_22, l32_23, l32_24, l32_25, l32_26, l32_27, l32_28, l32_29, l32_33, l32_40, l32_41, l32_44, l32_45, l32_59, l32_61, l32_91, l32_93, l32_123, l32_125, zz]
  rw [E1]
  refine lp (fun F i (_ : Unit) => cf_115_L2 N X F 0 v z (Int32.ofNat r.length) (Int32.ofNat i) t) r.length (fun i _ => fndV r z = fndA z (r.drop i) i) (fun R => R = some (t, .inl (some (.int (fndV r z))))) ?_ ?_ r.length 0 N () (Nat.zero_add _) (by omega) rfl
  · intro F i _ hi hP _
    have n1 : ¬ r.length ≤ i := by omega
    have ia := c_intAt (N := N) (X := X) hh hcv hi
    rw [List.drop_eq_getElem_cons hi] at hP
    have hP : fndV r z = if r[i] = z then Int32.ofNat i else fndA z (r.drop (i + 1)) (i + 1) := hP
    by_cases c : r[i] = z
    · right
      rw [if_pos c] at hP
      rw [hP]
      show cf_115_13 N X (cf_115_L2 N X F) v z (Int32.ofNat r.length) (Int32.ofNat i) t = _
      unfold cf_115_13 cf_115_20 cf_115_30 cf_115_34
      simp (disch := omega) only [ev_S, ev_C, ↓reduceIte, Nat.reduceEqDiff, Nat.reduceLeDiff, Nat.reduceAdd, Nat.reduceMul, Nat.reduceSub, reduceCtorEq, l32_0, l32_1, l32_2, l32_3, l32_4, l32_5, l32_6, l32_7, l32_8, l32_9, l32_10, l32_11, l32_12, l32_13, l32_14, l32_15, l32_16, l32_17, l32_18, l32_19, l32_20, l32_21, l32_22, l32_23, l32_24, l32_25, l32_26, l32_27, l32_28, l32_29, l32_33, l32_40, l32_41, l32_44, l32_45, l32_59, l32_61, l32_91, l32_93, l32_123, l32_125, n1, ia, c]
    · left
      rw [if_neg c] at hP
      refine ⟨(), hP, ?_⟩
      show cf_115_13 N X (cf_115_L2 N X F) v z (Int32.ofNat r.length) (Int32.ofNat i) t = _
      unfold cf_115_13 cf_115_20 cf_115_30 cf_115_37
      simp (disch := omega) only [ev_S, ev_C, ↓reduceIte, Nat.reduceEqDiff, Nat.reduceLeDiff, Nat.reduceAdd, Nat.reduceMul, Nat.reduceSub, reduceCtorEq, l32_0, l32_1, l32_2, l32_3, l32_4, l32_5, l32_6, l32_7, l32_8, l32_9, l32_10, l32_11, l32_12, l32_13, l32_14, l32_15, l32_16, l32_17, l32_18, l32_19, l32_20, l32_21, l32_22, l32_23, l32_24, l32_25, l32_26, l32_27, l32_28, l32_29, l32_33, l32_40, l32_41, l32_44, l32_45, l32_59, l32_61, l32_91, l32_93, l32_123, l32_125, n1, ia, c]
  · intro F _ hP
    rw [List.drop_length] at hP
    have hP : fndV r z = -Int32.ofNat 1 := hP
    rw [hP]
    show cf_115_13 N X (cf_115_L2 N X F) v z (Int32.ofNat r.length) (Int32.ofNat r.length) t = _
    unfold cf_115_13 cf_115_43
    simp (disch := omega) only [ev_S, ev_C, ↓reduceIte, Nat.reduceEqDiff, Nat.reduceLeDiff, Nat.reduceAdd, Nat.reduceMul, Nat.reduceSub, reduceCtorEq, l32_0, l32_1, l32_2, l32_3, l32_4, l32_5, l32_6, l32_7, l32_8, l32_9, l32_10, l32_11, l32_12, l32_13, l32_14, l32_15, l32_16, l32_17, l32_18, l32_19, l32_20, l32_21, l32_22, l32_23, l32_24, l32_25, l32_26, l32_27, l32_28, l32_29, l32_33, l32_40, l32_41, l32_44, l32_45, l32_59, l32_61, l32_91, l32_93, l32_123, l32_125]
theorem c_find (hN : 170000 ≤ N) (hh : cHp t u w) (hx : cN (cel t) u vx x) (hy : cN (cel t) u vy y) (wx : wfN x) (wy : wfN y) (hu : u ≤ 162000) (hw : w ≤ 1000) : ∃ t' v, cf_114 N X vx vy t = some (t', .inl (some (.long v))) ∧ cE t t' u v (if ¬ kn x = 1 ∨ 1 < kn y then .inl 3 else ansF (rvN x) y) := by
  have kx := c_kn (N := N) (X := X) hx
  have ky := c_kn (N := N) (X := X) hy
  have lx := kn_le (x := x)
  have ly := kn_le (x := y)
  by_cases c : ¬ kn x = 1 ∨ 1 < kn y
  · rw [if_pos c]
    refine ⟨t, _, ?_, cE.tr hh⟩
    have b1 := c_rf (N := N) (X := X) (t := t) (k := Int32.ofNat 3)
    generalize kn x = kx' at *
    generalize kn y = ky' at *
    by_cases d : kx' = 1
    · have e : ¬ ky' ≤ 1 := by omega
      unfold cf_114 cf_114_0 cf_114_4 cf_114_8 cf_114_12 cf_114_16 cf_114_20
      simp (disch := omega) only [ev_S, ev_C, ↓reduceIte, Nat.reduceEqDiff, Nat.reduceLeDiff, Nat.reduceAdd, Nat.reduceMul, Nat.reduceSub, reduceCtorEq, l32_0, l32_1, l32_2, l32_3, l32_4, l32_5, l32_6, l32_7, l32_8, l32_9, l32_10, l32_11, l32_12, l32_13, l32_14, l32_15, l32_16, l32_17, l32_18, l32_19, l32_20, l32_21, l32_22, l32_23, l32_24, l32_25, l32_26, l32_27, l32_28, l32_29, l32_33, l32_40, l32_41, l32_44, l32_45, l32_59, l32_61, l32_91, l32_93, l32_123, l32_125, kx, ky, d, e, b1]
    · unfold cf_114 cf_114_0 cf_114_4 cf_114_16 cf_114_20
      simp (disch := omega) only [ev_S, ev_C, ↓reduceIte, Nat.reduceEqDiff, Nat.reduceLeDiff, Nat.reduceAdd, Nat.reduceMul, Nat.reduceSub, reduceCtorEq, l32_0, l32_1, l32_2, l32_3, l32_4, l32_5, l32_6, l32_7, l32_8, l32_9, l32_10, l32_11, l32_12, l32_13, l32_14, l32_15, l32_16, l32_17, l32_18, l32_19, l32_20, l32_21, l32_22, l32_23, l32_24, l32_25, l32_26, l32_27, l32_28, l32_29, l32_33, l32_40, l32_41, l32_44, l32_45, l32_59, l32_61, l32_91, l32_93, l32_123, l32_125, kx, d, b1]
  · rw [if_neg c]
    have c1 : kn x = 1 := Classical.byContradiction (fun z => c (Or.inl z))
    have d1 : kn y ≤ 1 := Nat.not_lt.mp (fun z => c (Or.inr z))
    have hr := rv_wf c1 wx
    have hxr : cN (cel t) u vx (nR (rvN x)) := cN_iff.mpr (hx.r c1)
    rw [c1] at kx
    generalize rvN x = r at *
    unfold ansF
    by_cases c0 : kn y = 0
    · rw [if_pos c0]
      have ey := hy.z c0
      have lo := c_lowOf (N := N) (X := X) (t := t) (k := 0) (a := ivN y)
      rw [← ey] at lo
      have fd := c_fnd (N := N) (X := X) (z := ivN y) hN hh hxr hr
      have th := c_thing (N := N) (X := X) (t := t) (k := Int32.ofNat 0) (a := fndV r (ivN y))
      refine ⟨t, tg (Int32.ofNat 0) (fndV r (ivN y)), ?_, u, w, hh, hfw.rf, Nat.le_refl _, fun _ _ => rfl, cN_Z, Nat.le_add_right _ _, trivial, Nat.zero_le _⟩
      rw [c0] at ky
      generalize fndV r (ivN y) = D at *
      unfold cf_114 cf_114_0 cf_114_4 cf_114_8 cf_114_12 cf_114_21 cf_114_25 cf_114_28 cf_114_35 cf_114_38 cf_114_41
      simp (disch := omega) only [ev_S, ev_C, ↓reduceIte, Nat.reduceEqDiff, Nat.reduceLeDiff, Nat.reduceAdd, Nat.reduceMul, Nat.reduceSub, reduceCtorEq, l32_0, l32_1, l32_2, l32_3, l32_4, l32_5, l32_6, l32_7, l32_8, l32_9, l32_10, l32_11, l32_12, l32_13, l32_14, l32_15, l32_16, l32_17, l32_18, l32_19, l32_20, l32_21, l32_22, l32_23, l32_24, l32_25, l32_26, l32_27, l32_28, l32_29, l32_33, l32_40, l32_41, l32_44, l32_45, l32_59, l32_61, l32_91, l32_93, l32_123, l32_125, kx, ky, lo, fd, th]
    · rw [if_neg c0]
      have e1 : kn y = 1 := by omega
      have zy := c_sizeN (N := N) (X := X) hh hy
      rw [kn1_sz e1] at zy
      have hr' := rv_wf e1 wy
      have ga := c_gathered (N := N) (X := X) hh
      have UP : ∀ {t' u' ys}, cG t t' u u' w ys → cV (cel t') u' vy (vR (rvN y)) := fun {t' u' ys} G => (G.up hy).r e1
      rw [e1] at ky
      generalize rvN y = q at *
      have E1 : cf_114 N X vx vy t = cf_114_L4 N X N 0 vx vy (Int32.ofNat q.length) (Int32.ofNat w) (Int32.ofNat 0) t := by
        unfold cf_114 cf_114_0 cf_114_4 cf_114_8 cf_114_12 cf_114_21 cf_114_25 cf_114_42 cf_114_50 cf_114_59
        simp (disch := omega) only [ev_S, ev_C, ↓reduceIte, Nat.reduceEqDiff, Nat.reduceLeDiff, Nat.reduceAdd, Nat.reduceMul, Nat.reduceSub, reduceCtorEq, l32_0, l32_1, l32_2, l32_3, l32_4, l32_5, l32_6, l32_7, l32_8, l32_9, l32_10, l32_11, l32_12, l32_13, l32_14, l32_15, l32_16, l32_17, l32_18, l32_19, l32_20, l32_21, l32_22, l32_23, l32_24, l32_25, l32_26, l32_27, l32_28, l32_29, l32_33, l32_40, l32_41, l32_44, l32_45, l32_59, l32_61, l32_91, l32_93, l32_123, l32_125, kx, ky, zy, ga]
      rw [E1]
      refine lp (fun F i (t' : cS) => cf_114_L4 N X F 0 vx vy (Int32.ofNat q.length) (Int32.ofNat w) (Int32.ofNat i) t') q.length (fun i t' => cG t t' u u w (((q.take i).map (fndV r)).map nZ)) (fun R => ∃ t' v, R = some (t', .inl (some (.long v))) ∧ cE t t' u v (ansM 1 ((q.map (fndV r)).map nZ))) ?_ ?_ q.length 0 N t (Nat.zero_add _) (by omega) (cG.nil hh)
      · intro F i t1 hi G _
        left
        have n1 : ¬ q.length ≤ i := by omega
        have hll : (((q.take i).map (fndV r)).map nZ).length = i := by rw [List.length_map, len_take_map (by omega)]
        have ia := c_intAt (N := N) (X := X) G.c (UP G) hi
        have fd := c_fnd (N := N) (X := X) (z := q[i]) hN G.c (G.up hxr) hr
        obtain ⟨t2, p1, p2⟩ := cG.put (N := N) (X := X) G (by rw [hll]; omega) (cN_Z (z := fndV r q[i]))
        have th := c_thing (N := N) (X := X) (t := t1) (k := Int32.ofNat 0) (a := fndV r q[i])
        have p1 : cf_123 N X (tg (Int32.ofNat 0) (fndV r q[i])) t1 = _ := p1
        refine ⟨t2, ?_, ?_⟩
        · rw [take_map_s hi, List.map_append]
          exact p2
        · show cf_114_64 N X (cf_114_L4 N X F) vx vy (Int32.ofNat q.length) (Int32.ofNat w) (Int32.ofNat i) t1 = _
          generalize fndV r q[i] = D at *
          unfold cf_114_64 cf_114_71 cf_114_88 cf_114_91 cf_114_94 cf_114_97
          simp (disch := omega) only [ev_S, ev_C, ↓reduceIte, Nat.reduceEqDiff, Nat.reduceLeDiff, Nat.reduceAdd, Nat.reduceMul, Nat.reduceSub, reduceCtorEq, l32_0, l32_1, l32_2, l32_3, l32_4, l32_5, l32_6, l32_7, l32_8, l32_9, l32_10, l32_11, l32_12, l32_13, l32_14, l32_15, l32_16, l32_17, l32_18, l32_19, l32_20, l32_21, l32_22, l32_23, l32_24, l32_25, l32_26, l32_27, l32_28, l32_29, l32_33, l32_40, l32_41, l32_44, l32_45, l32_59, l32_61, l32_91, l32_93, l32_123, l32_125, n1, ia, fd, th, p1]
      · intro F t1 G
        rw [List.take_length] at G
        obtain ⟨t2, v, b1, b2⟩ := cG.bZ (N := N) (X := X) hN G (Or.inl rfl) (by rw [List.length_map]; omega) (by omega) (by omega)
        refine ⟨t2, v, ?_, b2⟩
        show cf_114_64 N X (cf_114_L4 N X F) vx vy (Int32.ofNat q.length) (Int32.ofNat w) (Int32.ofNat q.length) t1 = _
        unfold cf_114_64 cf_114_103 cf_114_113
        simp (disch := omega) only [ev_S, ev_C, ↓reduceIte, Nat.reduceEqDiff, Nat.reduceLeDiff, Nat.reduceAdd, Nat.reduceMul, Nat.reduceSub, reduceCtorEq, l32_0, l32_1, l32_2, l32_3, l32_4, l32_5, l32_6, l32_7, l32_8, l32_9, l32_10, l32_11, l32_12, l32_13, l32_14, l32_15, l32_16, l32_17, l32_18, l32_19, l32_20, l32_21, l32_22, l32_23, l32_24, l32_25, l32_26, l32_27, l32_28, l32_29, l32_33, l32_40, l32_41, l32_44, l32_45, l32_59, l32_61, l32_91, l32_93, l32_123, l32_125, b1]
theorem c_tms (hN : 170000 ≤ N) (hh : cHp t u w) (h : cN (cel t) u v (nR r)) (hr : r.length ≤ 64) (hw : w ≤ 2000) (hu : u ≤ 164000) : ∃ t2 v2, cf_119 N X z v t = some (t2, .inl (some (.long v2))) ∧ cG t t2 u (u + 1 + r.length) w [] ∧ cN (cel t2) (u + 1 + r.length) v2 (nR (r.map fun b => z * b)) := by
  have zz := c_sizeN (N := N) (X := X) hh h
  have zz : cf_128 N X v t = some (t, .inl (some (.int (Int32.ofNat r.length)))) := zz
  have ga := c_gathered (N := N) (X := X) hh
  have E1 : cf_119 N X z v t = cf_119_L2 N X N 0 z v (Int32.ofNat r.length) (Int32.ofNat w) (Int32.ofNat 0) t := by
    unfold cf_119 cf_119_0 cf_119_8 cf_119_17
    simp (disch := omega) only [ev_S, ev_C, ↓reduceIte, Nat.reduceEqDiff, Nat.reduceLeDiff, Nat.reduceAdd, Nat.reduceMul, Nat.reduceSub, reduceCtorEq, l32_0, l32_1, l32_2, l32_3, l32_4, l32_5, l32_6, l32_7, l32_8, l32_9, l32_10, l32_11, l32_12, l32_13, l32_14, l32_15, l32_16, l32_17, l32_18, l32_19, l32_20, l32_21, l32_22, l32_23, l32_24, l32_25, l32_26, l32_27, l32_28, l32_29, l32_33, l32_40, l32_41, l32_44, l32_45, l32_59, l32_61, l32_91, l32_93, l32_123, l32_125, zz, ga]
  rw [E1]
  refine lp (fun F i (t' : cS) => cf_119_L2 N X F 0 z v (Int32.ofNat r.length) (Int32.ofNat w) (Int32.ofNat i) t') r.length (fun i t' => cG t t' u u w (((r.take i).map fun b => z * b).map nZ)) (fun R => ∃ t2 v2, R = some (t2, .inl (some (.long v2))) ∧ cG t t2 u (u + 1 + r.length) w [] ∧ cN (cel t2) (u + 1 + r.length) v2 (nR (r.map fun b => z * b))) ?_ ?_ r.length 0 N t (Nat.zero_add _) (by omega) (cG.nil hh)
  · intro F i t1 hi G _
    left
    have n1 : ¬ r.length ≤ i := by omega
    have hll : (((r.take i).map fun b => z * b).map nZ).length = i := by rw [List.length_map, len_take_map (by omega)]
    have ia := c_intAt (N := N) (X := X) G.c (cN_iff.mp (G.up h)) hi
    obtain ⟨t2, p1, p2⟩ := cG.put (N := N) (X := X) G (by rw [hll]; omega) (cN_Z (z := z * r[i]))
    have th := c_thing (N := N) (X := X) (t := t1) (k := Int32.ofNat 0) (a := z * r[i])
    have p1 : cf_123 N X (tg (Int32.ofNat 0) (z * r[i])) t1 = _ := p1
    refine ⟨t2, ?_, ?_⟩
    · rw [take_map_s hi, List.map_append]
      exact p2
    · show cf_119_22 N X (cf_119_L2 N X F) z v (Int32.ofNat r.length) (Int32.ofNat w) (Int32.ofNat i) t1 = _
      unfold cf_119_22 cf_119_29 cf_119_45 cf_119_49 cf_119_52
      simp (disch := omega) only [ev_S, ev_C, ↓reduceIte, Nat.reduceEqDiff, Nat.reduceLeDiff, Nat.reduceAdd, Nat.reduceMul, Nat.reduceSub, reduceCtorEq, l32_0, l32_1, l32_2, l32_3, l32_4, l32_5, l32_6, l32_7, l32_8, l32_9, l32_10, l32_11, l32_12, l32_13, l32_14, l32_15, l32_16, l32_17, l32_18, l32_19, l32_20, l32_21, l32_22, l32_23, l32_24, l32_25, l32_26, l32_27, l32_28, l32_29, l32_33, l32_40, l32_41, l32_44, l32_45, l32_59, l32_61, l32_91, l32_93, l32_123, l32_125, n1, ia, th, p1]
  · intro F t1 G
    rw [List.take_length] at G
    have hl : (r.map fun b => z * b).length = r.length := List.length_map _
    obtain ⟨t2, v2, b1, b2, b3⟩ := cG.mkRow (N := N) (X := X) hN G (by rw [hl]; exact hr) (by omega) (by omega)
    rw [hl] at b2 b3
    refine ⟨t2, v2, ?_, b2, b3⟩
    show cf_119_22 N X (cf_119_L2 N X F) z v (Int32.ofNat r.length) (Int32.ofNat w) (Int32.ofNat r.length) t1 = _
    unfold cf_119_22 cf_119_58 cf_119_68
    simp (disch := omega) only [ev_S, ev_C, ↓reduceIte, Nat.reduceEqDiff, Nat.reduceLeDiff, Nat.reduceAdd, Nat.reduceMul, Nat.reduceSub, reduceCtorEq, l32_0, l32_1, l32_2, l32_3, l32_4, l32_5, l32_6, l32_7, l32_8, l32_9, l32_10, l32_11, l32_12, l32_13, l32_14, l32_15, l32_16, l32_17, l32_18, l32_19, l32_20, l32_21, l32_22, l32_23, l32_24, l32_25, l32_26, l32_27, l32_28, l32_29, l32_33, l32_40, l32_41, l32_44, l32_45, l32_59, l32_61, l32_91, l32_93, l32_123, l32_125, b1]
theorem c_out (hN : 170000 ≤ N) (hh : cHp t u w) (hx : cN (cel t) u vx x) (hy : cN (cel t) u vy y) (wx : wfN x) (wy : wfN y) (hu : u ≤ 162000) (hw : w ≤ 1000) : ∃ t' v, cf_118 N X vx vy t = some (t', .inl (some (.long v))) ∧ cE t t' u v (if kn x = 1 ∧ kn y = 1 then ansO (rvN x) (rvN y) else .inl 3) := by
  have kx := c_kn (N := N) (X := X) hx
  have ky := c_kn (N := N) (X := X) hy
  have lx := kn_le (x := x)
  have ly := kn_le (x := y)
  by_cases c : kn x = 1 ∧ kn y = 1
  · rw [if_pos c]
    obtain ⟨c1, d1⟩ := c
    have zx := c_sizeN (N := N) (X := X) hh hx
    rw [kn1_sz c1] at zx
    have zy := c_sizeN (N := N) (X := X) hh hy
    rw [kn1_sz d1] at zy
    have hr := rv_wf c1 wx
    have hr' := rv_wf d1 wy
    have ga := c_gathered (N := N) (X := X) hh
    have UP : ∀ {t' u' ys}, cG t t' u u' w ys → cV (cel t') u' vx (vR (rvN x)) := fun {t' u' ys} G => (G.up hx).r c1
    have hyr : cN (cel t) u vy (nR (rvN y)) := cN_iff.mpr (hy.r d1)
    rw [c1] at kx
    rw [d1] at ky
    generalize rvN x = r at *
    generalize rvN y = r' at *
    have hmul : r.length * r'.length ≤ 64 * 64 := Nat.mul_le_mul hr hr'
    unfold ansO
    by_cases c : 20 < r.length ∨ 200 < r.length * r'.length
    · rw [if_pos c]
      refine ⟨t, _, ?_, cE.tr hh⟩
      have b1 := c_rf (N := N) (X := X) (t := t) (k := Int32.ofNat 2)
      by_cases d : 20 < r.length
      · unfold cf_118 cf_118_0 cf_118_4 cf_118_8 cf_118_12 cf_118_21 cf_118_29 cf_118_55 cf_118_59
        simp (disch := omega) only [ev_S, ev_C, ↓reduceIte, Nat.reduceEqDiff, Nat.reduceLeDiff, Nat.reduceAdd, Nat.reduceMul, Nat.reduceSub, reduceCtorEq, l32_0, l32_1, l32_2, l32_3, l32_4, l32_5, l32_6, l32_7, l32_8, l32_9, l32_10, l32_11, l32_12, l32_13, l32_14, l32_15, l32_16, l32_17, l32_18, l32_19, l32_20, l32_21, l32_22, l32_23, l32_24, l32_25, l32_26, l32_27, l32_28, l32_29, l32_33, l32_40, l32_41, l32_44, l32_45, l32_59, l32_61, l32_91, l32_93, l32_123, l32_125, kx, ky, zx, d, b1]
      · have e : ¬ r.length * r'.length ≤ 200 := by omega
        unfold cf_118 cf_118_0 cf_118_4 cf_118_8 cf_118_12 cf_118_21 cf_118_29 cf_118_38 cf_118_48 cf_118_55 cf_118_59
        simp (disch := omega) only [ev_S, ev_C, ↓reduceIte, Nat.reduceEqDiff, Nat.reduceLeDiff, Nat.reduceAdd, Nat.reduceMul, Nat.reduceSub, reduceCtorEq, l32_0, l32_1, l32_2, l32_3, l32_4, l32_5, l32_6, l32_7, l32_8, l32_9, l32_10, l32_11, l32_12, l32_13, l32_14, l32_15, l32_16, l32_17, l32_18, l32_19, l32_20, l32_21, l32_22, l32_23, l32_24, l32_25, l32_26, l32_27, l32_28, l32_29, l32_33, l32_40, l32_41, l32_44, l32_45, l32_59, l32_61, l32_91, l32_93, l32_123, l32_125, kx, ky, zx, zy, d, e, b1, l32_200]
    · rw [if_neg c]
      have d : ¬ 20 < r.length := fun z => c (Or.inl z)
      have e : r.length * r'.length ≤ 200 := Nat.not_lt.mp (fun z => c (Or.inr z))
      have E1 : cf_118 N X vx vy t = cf_118_L6 N X N 0 vx vy (Int32.ofNat r.length) (Int32.ofNat w) (Int32.ofNat 0) t := by
        unfold cf_118 cf_118_0 cf_118_4 cf_118_8 cf_118_12 cf_118_21 cf_118_29 cf_118_38 cf_118_48 cf_118_60 cf_118_67
        simp (disch := omega) only [ev_S, ev_C, ↓reduceIte, Nat.reduceEqDiff, Nat.reduceLeDiff, Nat.reduceAdd, Nat.reduceMul, Nat.reduceSub, reduceCtorEq, l32_0, l32_1, l32_2, l32_3, l32_4, l32_5, l32_6, l32_7, l32_8, l32_9, l32_10, l32_11, l32_12, l32_13, l32_14, l32_15, l32_16, l32_17, l32_18, l32_19, l32_20, l32_21, l32_22, l32_23, l32_24, l32_25, l32_26, l32_27, l32_28, l32_29, l32_33, l32_40, l32_41, l32_44, l32_45, l32_59, l32_61, l32_91, l32_93, l32_123, l32_125, kx, ky, zx, zy, d, e, ga, l32_200]
      rw [E1]
      have hle : ∀ i, i ≤ r.length → i * r'.length ≤ 200 := fun i hi => Nat.le_trans (Nat.mul_le_mul_right _ hi) e
      refine lp (fun F i (t' : cS) => cf_118_L6 N X F 0 vx vy (Int32.ofNat r.length) (Int32.ofNat w) (Int32.ofNat i) t') r.length (fun i t' => cG t t' u (u + (i + i * r'.length)) w (((r.take i).map fun a => r'.map fun b => a * b).map nR)) (fun R => ∃ t' v, R = some (t', .inl (some (.long v))) ∧ cE t t' u v (ansM 2 ((r.map fun a => r'.map fun b => a * b).map nR))) ?_ ?_ r.length 0 N t (Nat.zero_add _) (by omega) (by rw [Nat.zero_mul]; exact cG.nil hh)
      · intro F i t1 hi G _
        left
        have hl0 : ((r.take i).map fun a => r'.map fun b => a * b).length = i := len_take_map (by omega)
        have hll : (((r.take i).map fun a => r'.map fun b => a * b).map nR).length = i := by rw [List.length_map, hl0]
        have hsi := hle i (by omega)
        have n1 : ¬ r.length ≤ i := by omega
        have ia := c_intAt (N := N) (X := X) G.c (UP G) hi
        obtain ⟨t2, v, r1, r2, r3⟩ := c_tms (N := N) (X := X) (z := r[i]) hN G.c (G.up hyr) hr' (by rw [hll]; omega) (by omega)
        obtain ⟨t3, p1, p2⟩ := cG.addRow (N := N) (X := X) G r2 r3 (by rw [hll]; omega)
        refine ⟨t3, ?_, ?_⟩
        · rw [take_map_s hi, List.map_append]
          have e : u + (i + 1 + (i + 1) * r'.length) = u + (i + i * r'.length) + 1 + r'.length := by rw [Nat.succ_mul]; omega
          rw [e]
          exact p2
        · show cf_118_72 N X (cf_118_L6 N X F) vx vy (Int32.ofNat r.length) (Int32.ofNat w) (Int32.ofNat i) t1 = _
          unfold cf_118_72 cf_118_79 cf_118_94 cf_118_98 cf_118_101
          simp (disch := omega) only [ev_S, ev_C, ↓reduceIte, Nat.reduceEqDiff, Nat.reduceLeDiff, Nat.reduceAdd, Nat.reduceMul, Nat.reduceSub, reduceCtorEq, l32_0, l32_1, l32_2, l32_3, l32_4, l32_5, l32_6, l32_7, l32_8, l32_9, l32_10, l32_11, l32_12, l32_13, l32_14, l32_15, l32_16, l32_17, l32_18, l32_19, l32_20, l32_21, l32_22, l32_23, l32_24, l32_25, l32_26, l32_27, l32_28, l32_29, l32_33, l32_40, l32_41, l32_44, l32_45, l32_59, l32_61, l32_91, l32_93, l32_123, l32_125, n1, ia, r1, p1]
      · intro F t1 G
        rw [List.take_length] at G
        have hs := out_sum (q := r) (r' := r')
        have hlp : (r.map fun a => r'.map fun b => a * b).length = r.length := List.length_map _
        obtain ⟨t2, v, b1, b2⟩ := cG.bT (N := N) (X := X) hN G (fun p hp => by
          obtain ⟨q, -, rfl⟩ := List.mem_map.mp hp
          rw [List.length_map]
          exact hr') (by rw [hlp, hs]; omega) (by rw [hlp, hs]; omega) (by omega) (by omega)
        refine ⟨t2, v, ?_, b2⟩
        show cf_118_72 N X (cf_118_L6 N X F) vx vy (Int32.ofNat r.length) (Int32.ofNat w) (Int32.ofNat r.length) t1 = _
        unfold cf_118_72 cf_118_107 cf_118_117
        simp (disch := omega) only [ev_S, ev_C, ↓reduceIte, Nat.reduceEqDiff, Nat.reduceLeDiff, Nat.reduceAdd, Nat.reduceMul, Nat.reduceSub, reduceCtorEq, l32_0, l32_1, l32_2, l32_3, l32_4, l32_5, l32_6, l32_7, l32_8, l32_9, l32_10, l32_11, l32_12, l32_13, l32_14, l32_15, l32_16, l32_17, l32_18, l32_19, l32_20, l32_21, l32_22, l32_23, l32_24, l32_25, l32_26, l32_27, l32_28, l32_29, l32_33, l32_40, l32_41, l32_44, l32_45, l32_59, l32_61, l32_91, l32_93, l32_123, l32_125, b1]
  · rw [if_neg c]
    refine ⟨t, _, ?_, cE.tr hh⟩
    have b1 := c_rf (N := N) (X := X) (t := t) (k := Int32.ofNat 3)
    generalize kn x = kx' at *
    generalize kn y = ky' at *
    by_cases d : kx' = 1
    · have e : ¬ ky' = 1 := fun z => c ⟨d, z⟩
      unfold cf_118 cf_118_0 cf_118_4 cf_118_8 cf_118_12 cf_118_16 cf_118_20
      simp (disch := omega) only [ev_S, ev_C, ↓reduceIte, Nat.reduceEqDiff, Nat.reduceLeDiff, Nat.reduceAdd, Nat.reduceMul, Nat.reduceSub, reduceCtorEq, l32_0, l32_1, l32_2, l32_3, l32_4, l32_5, l32_6, l32_7, l32_8, l32_9, l32_10, l32_11, l32_12, l32_13, l32_14, l32_15, l32_16, l32_17, l32_18, l32_19, l32_20, l32_21, l32_22, l32_23, l32_24, l32_25, l32_26, l32_27, l32_28, l32_29, l32_33, l32_40, l32_41, l32_44, l32_45, l32_59, l32_61, l32_91, l32_93, l32_123, l32_125, kx, ky, d, e, b1]
    · unfold cf_118 cf_118_0 cf_118_4 cf_118_16 cf_118_20
      simp (disch := omega) only [ev_S, ev_C, ↓reduceIte, Nat.reduceEqDiff, Nat.reduceLeDiff, Nat.reduceAdd, Nat.reduceMul, Nat.reduceSub, reduceCtorEq, l32_0, l32_1, l32_2, l32_3, l32_4, l32_5, l32_6, l32_7, l32_8, l32_9, l32_10, l32_11, l32_12, l32_13, l32_14, l32_15, l32_16, l32_17, l32_18, l32_19, l32_20, l32_21, l32_22, l32_23, l32_24, l32_25, l32_26, l32_27, l32_28, l32_29, l32_33, l32_40, l32_41, l32_44, l32_45, l32_59, l32_61, l32_91, l32_93, l32_123, l32_125, kx, d, b1]
end PFC
