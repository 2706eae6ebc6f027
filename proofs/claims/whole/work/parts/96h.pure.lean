/-! ===== PURE: run (35): grid: the class ===== -/
section GRC
variable {N k : Nat} {X : Nat → Option zz_C} {t t' t2 : cS} {u u' u2 w q : Nat} {x y : Nod} {xs : List Nod} {zs : List Int32} {v vx vy : Int64}
theorem cG.addRow (G : cG t t' u u' w xs) (R : cG t' t2 u' u2 (w + xs.length) []) (hx : cN (cel t2) u2 v x) (hw : w + xs.length < 61000) : ∃ t3, cf_123 N X v t2 = some (t3, .inl none) ∧ cG t t3 u u2 w (xs ++ [x]) := cG.put (N := N) (X := X) (cG.comp G R) hw hx
theorem cG.bT {q : List (List Int32)} (hN : 170000 ≤ N) (G : cG t t' u u' w (q.map nR)) (hq : ∀ r ∈ q, r.length ≤ 64) (hu' : u' ≤ u + (2 * q.length + (q.map List.length).sum) + 1) (hs : 2 * q.length + (q.map List.length).sum ≤ 1900) (hw : w ≤ 100000) (hu : u ≤ 164000) : ∃ t'' v, cf_126 N X (Int32.ofNat 2) (Int32.ofNat w) t' = some (t'', .inl (some (.long v))) ∧ cE t t'' u v (ansM 2 (q.map nR)) := cG.build (N := N) (X := X) (k := 2) hN G (Or.inr (Or.inl ⟨rfl, (nRs_ok hq).1⟩)) (nRs_ok hq).2.1 (nRs_ok hq).2.2 (by rw [List.length_map]; omega) hw (by omega) (by rw [grT2]; exact hu') (by omega)
/-- a ROW of what was gathered since -/
theorem cG.mkRow (hN : 170000 ≤ N) (G : cG t t' u u w (zs.map nZ)) (hz : zs.length ≤ 64) (hw : w ≤ 60000) (hu : u ≤ 166000) : ∃ t2 v, cf_126 N X (Int32.ofNat 1) (Int32.ofNat w) t' = some (t2, .inl (some (.long v))) ∧ cG t t2 u (u + 1 + zs.length) w [] ∧ cN (cel t2) (u + 1 + zs.length) v (nR zs) := by
  obtain ⟨t2, v, b1, b2, b3, -⟩ := cG.rowV (N := N) (X := X) (xs := []) (t := t) (t' := t') hN (by rw [List.nil_append]; exact G) hz (by show w + 0 ≤ 60000; omega) hu
  exact ⟨t2, v, b1, b2, b3⟩
theorem c_zeros (hN : 170000 ≤ N) (hh : cHp t u w) (hq : q ≤ 64) (hw : w ≤ 2000) (hu : u ≤ 164000) : ∃ t2 v, cf_91 N X (Int32.ofNat q) t = some (t2, .inl (some (.long v))) ∧ cG t t2 u (u + 1 + q) w [] ∧ cN (cel t2) (u + 1 + q) v (nR (zer q)) := by
  have hl : ∀ i, ((zer i).map nZ).length = i := fun i => by rw [List.length_map]; exact List.length_replicate
  have ga := c_gathered (N := N) (X := X) hh
  have E1 : cf_91 N X (Int32.ofNat q) t = cf_91_L2 N X N 0 (Int32.ofNat q) (Int32.ofNat w) (Int32.ofNat 0) t := by
    repeat ((first | unfold cf_91 | unfold cf_91_0 | unfold cf_91_7 | unfold cf_91_10 | unfold cf_91_15 | unfold cf_91_24 | unfold cf_91_27 | unfold cf_91_33 | unfold cf_91_42); try simp (disch := omega) only [ev_S, ev_C, ↓reduceIte, Nat.reduceEqDiff, Nat.reduceLeDiff, Nat.reduceAdd, Nat.reduceMul, Nat.reduceSub, reduceCtorEq, l32_0, l32_1, l32_2, l32_3, l32_4, ga])
  rw [E1]
  refine lp (fun F i (t' : cS) => cf_91_L2 N X F 0 (Int32.ofNat q) (Int32.ofNat w) (Int32.ofNat i) t') q (fun i t' => cG t t' u u w ((zer i).map nZ)) (fun R => ∃ t2 v, R = some (t2, .inl (some (.long v))) ∧ cG t t2 u (u + 1 + q) w [] ∧ cN (cel t2) (u + 1 + q) v (nR (zer q))) ?_ ?_ q 0 N t (Nat.zero_add _) (by omega) (cG.nil hh)
  · intro F i t1 hi G _
    left
    have n1 : ¬ q ≤ i := by omega
    obtain ⟨t2, p1, p2⟩ := cG.put (N := N) (X := X) G (by rw [hl]; omega) (cN_Z (z := 0))
    have th := c_thing (N := N) (X := X) (t := t1) (k := Int32.ofNat 0) (a := Int32.ofNat 0)
    have p1 : cf_123 N X (tg (Int32.ofNat 0) (Int32.ofNat 0)) t1 = _ := p1
    refine ⟨t2, ?_, ?_⟩
    · rw [zer_s, List.map_append]
      exact p2
    · show cf_91_10 N X (cf_91_L2 N X F) (Int32.ofNat q) (Int32.ofNat w) (Int32.ofNat i) t1 = _
      unfold cf_91_10 cf_91_15 cf_91_24 cf_91_27
      simp (disch := omega) only [ev_S, ev_C, ↓reduceIte, Nat.reduceEqDiff, Nat.reduceLeDiff, Nat.reduceAdd, Nat.reduceMul, Nat.reduceSub, reduceCtorEq, l32_0, l32_1, l32_2, l32_3, l32_4, l32_5, l32_6, l32_7, l32_8, l32_9, l32_10, l32_11, l32_12, l32_13, l32_14, l32_15, l32_16, l32_17, l32_18, l32_19, l32_20, l32_21, l32_22, l32_23, l32_24, l32_25, l32_26, l32_27, l32_28, l32_29, l32_33, l32_40, l32_41, l32_44, l32_45, l32_59, l32_61, l32_91, l32_93, l32_123, l32_125, n1, th, p1]
  · intro F t1 G
    have hzl : (zer q).length = q := List.length_replicate
    obtain ⟨t2, v, b1, b2, b3⟩ := cG.mkRow (N := N) (X := X) hN G (by rw [hzl]; exact hq) (by omega) (by omega)
    rw [hzl] at b2 b3
    refine ⟨t2, v, ?_, b2, b3⟩
    show cf_91_10 N X (cf_91_L2 N X F) (Int32.ofNat q) (Int32.ofNat w) (Int32.ofNat q) t1 = _
    unfold cf_91_10 cf_91_33 cf_91_42
    simp (disch := omega) only [ev_S, ev_C, ↓reduceIte, Nat.reduceEqDiff, Nat.reduceLeDiff, Nat.reduceAdd, Nat.reduceMul, Nat.reduceSub, reduceCtorEq, l32_0, l32_1, l32_2, l32_3, l32_4, l32_5, l32_6, l32_7, l32_8, l32_9, l32_10, l32_11, l32_12, l32_13, l32_14, l32_15, l32_16, l32_17, l32_18, l32_19, l32_20, l32_21, l32_22, l32_23, l32_24, l32_25, l32_26, l32_27, l32_28, l32_29, l32_33, l32_40, l32_41, l32_44, l32_45, l32_59, l32_61, l32_91, l32_93, l32_123, l32_125, b1]
theorem c_grid (hN : 170000 ≤ N) (hh : cHp t u w) (hx : cN (cel t) u vx x) (hy : cN (cel t) u vy y) (hu : u ≤ 162000) (hw : w ≤ 1000) : ∃ t' v, cf_92 N X vx vy t = some (t', .inl (some (.long v))) ∧ cE t t' u v (if kn x = 0 ∧ kn y = 0 then ansG (ivN x) (ivN y) else .inl 3) := by
  have kx := c_kn (N := N) (X := X) hx
  have ky := c_kn (N := N) (X := X) hy
  have lx := kn_le (x := x)
  have ly := kn_le (x := y)
  have T := fun k => c_rf (N := N) (X := X) (t := t) (k := k)
  by_cases c0 : kn x = 0 ∧ kn y = 0
  · rw [if_pos c0]
    have ex := hx.z c0.1
    have lo := c_lowOf (N := N) (X := X) (t := t) (k := 0) (a := ivN x)
    rw [← ex] at lo
    have ey := hy.z c0.2
    have lo' := c_lowOf (N := N) (X := X) (t := t) (k := 0) (a := ivN y)
    rw [← ey] at lo'
    rw [c0.1] at kx
    rw [c0.2] at ky
    generalize ivN x = z at *
    generalize ivN y = z' at *
    have E0 : cf_92 N X vx vy t = cf_92_29 N X z z' t := by
      unfold cf_92 cf_92_0 cf_92_4 cf_92_7 cf_92_11 cf_92_19 cf_92_23
      simp (disch := omega) only [ev_S, ev_C, ↓reduceIte, Nat.reduceEqDiff, Nat.reduceLeDiff, Nat.reduceAdd, Nat.reduceMul, Nat.reduceSub, reduceCtorEq, l32_0, l32_1, l32_2, l32_3, l32_4, l32_5, l32_6, l32_7, l32_8, l32_9, l32_10, l32_11, l32_12, l32_13, l32_14, l32_15, l32_16, l32_17, l32_18, l32_19, l32_20, l32_21, l32_22, l32_23, l32_24, l32_25, l32_26, l32_27, l32_28, l32_29, l32_33, l32_40, l32_41, l32_44, l32_45, l32_59, l32_61, l32_91, l32_93, l32_123, l32_125, kx, ky, lo, lo']
    rw [E0]
    clear E0 lo lo' kx ky
    have b2 := T (Int32.ofNat 2)
    have b1 := T (Int32.ofNat 1)
    unfold ansG
    by_cases z0 : z < 0
    · have x1 := (i32neg z0 (k := 20) (by omega)).2.2.2
      have x2 := (i32neg z0 (k := 0) (by omega)).2.1
      have x3 : z < Int32.ofNat 0 := z0
      rw [pz_n z0, Nat.zero_mul]
      by_cases y0 : z' < 0
      · rw [pz_n y0, if_neg (by omega), if_pos (Or.inl z0)]
        refine ⟨t, _, ?_, cE.tr hh⟩
        have y1 := (i32neg y0 (k := 64) (by omega)).2.2.2
        unfold cf_92_29 cf_92_38 cf_92_45 cf_92_71 cf_92_81 cf_92_85
        simp (disch := omega) only [ev_S, ev_C, ↓reduceIte, Nat.reduceEqDiff, Nat.reduceLeDiff, Nat.reduceAdd, Nat.reduceMul, Nat.reduceSub, reduceCtorEq, l32_0, l32_1, l32_2, l32_3, l32_4, l32_5, l32_6, l32_7, l32_8, l32_9, l32_10, l32_11, l32_12, l32_13, l32_14, l32_15, l32_16, l32_17, l32_18, l32_19, l32_20, l32_21, l32_22, l32_23, l32_24, l32_25, l32_26, l32_27, l32_28, l32_29, l32_33, l32_40, l32_41, l32_44, l32_45, l32_59, l32_61, l32_91, l32_93, l32_123, l32_125, x1, x2, x3, y1, b1, l32_64]
      · obtain ⟨q, hq, eq⟩ := i32nn y0
        subst eq
        rw [pz_o hq]
        by_cases c : 64 < q
        · rw [if_pos (Or.inr (Or.inl c))]
          refine ⟨t, _, ?_, cE.tr hh⟩
          unfold cf_92_29 cf_92_38 cf_92_66 cf_92_70
          simp (disch := omega) only [ev_S, ev_C, ↓reduceIte, Nat.reduceEqDiff, Nat.reduceLeDiff, Nat.reduceAdd, Nat.reduceMul, Nat.reduceSub, reduceCtorEq, l32_0, l32_1, l32_2, l32_3, l32_4, l32_5, l32_6, l32_7, l32_8, l32_9, l32_10, l32_11, l32_12, l32_13, l32_14, l32_15, l32_16, l32_17, l32_18, l32_19, l32_20, l32_21, l32_22, l32_23, l32_24, l32_25, l32_26, l32_27, l32_28, l32_29, l32_33, l32_40, l32_41, l32_44, l32_45, l32_59, l32_61, l32_91, l32_93, l32_123, l32_125, x1, c, b2, l32_64]
        · rw [if_neg (by omega), if_pos (Or.inl z0)]
          refine ⟨t, _, ?_, cE.tr hh⟩
          unfold cf_92_29 cf_92_38 cf_92_45 cf_92_71 cf_92_81 cf_92_85
          simp (disch := omega) only [ev_S, ev_C, ↓reduceIte, Nat.reduceEqDiff, Nat.reduceLeDiff, Nat.reduceAdd, Nat.reduceMul, Nat.reduceSub, reduceCtorEq, l32_0, l32_1, l32_2, l32_3, l32_4, l32_5, l32_6, l32_7, l32_8, l32_9, l32_10, l32_11, l32_12, l32_13, l32_14, l32_15, l32_16, l32_17, l32_18, l32_19, l32_20, l32_21, l32_22, l32_23, l32_24, l32_25, l32_26, l32_27, l32_28, l32_29, l32_33, l32_40, l32_41, l32_44, l32_45, l32_59, l32_61, l32_91, l32_93, l32_123, l32_125, x1, x2, x3, c, b1, l32_64]
    · obtain ⟨p, hp, ep⟩ := i32nn z0
      subst ep
      rw [pz_o hp]
      by_cases d : 20 < p
      · rw [if_pos (Or.inl d)]
        refine ⟨t, _, ?_, cE.tr hh⟩
        unfold cf_92_29 cf_92_66 cf_92_70
        simp (disch := omega) only [ev_S, ev_C, ↓reduceIte, Nat.reduceEqDiff, Nat.reduceLeDiff, Nat.reduceAdd, Nat.reduceMul, Nat.reduceSub, reduceCtorEq, l32_0, l32_1, l32_2, l32_3, l32_4, l32_5, l32_6, l32_7, l32_8, l32_9, l32_10, l32_11, l32_12, l32_13, l32_14, l32_15, l32_16, l32_17, l32_18, l32_19, l32_20, l32_21, l32_22, l32_23, l32_24, l32_25, l32_26, l32_27, l32_28, l32_29, l32_33, l32_40, l32_41, l32_44, l32_45, l32_59, l32_61, l32_91, l32_93, l32_123, l32_125, d, b2]
      · by_cases y0 : z' < 0
        · rw [pz_n y0, if_neg (by omega), if_pos (Or.inr y0)]
          refine ⟨t, _, ?_, cE.tr hh⟩
          have y1 := (i32neg y0 (k := 64) (by omega)).2.2.2
          have y2 := (i32neg y0 (k := 0) (by omega)).2.1
          have y3 := (i32neg y0 (k := 0) (by omega)).2.2.1
          have E1 : cf_92_29 N X (Int32.ofNat p) z' t = cf_92_71 N X (Int32.ofNat p) z' t := by
            by_cases p0 : p ≤ 0
            · unfold cf_92_29 cf_92_38 cf_92_45
              simp (disch := omega) only [ev_S, ev_C, ↓reduceIte, Nat.reduceEqDiff, Nat.reduceLeDiff, Nat.reduceAdd, Nat.reduceMul, Nat.reduceSub, reduceCtorEq, l32_0, l32_1, l32_2, l32_3, l32_4, l32_5, l32_6, l32_7, l32_8, l32_9, l32_10, l32_11, l32_12, l32_13, l32_14, l32_15, l32_16, l32_17, l32_18, l32_19, l32_20, l32_21, l32_22, l32_23, l32_24, l32_25, l32_26, l32_27, l32_28, l32_29, l32_33, l32_40, l32_41, l32_44, l32_45, l32_59, l32_61, l32_91, l32_93, l32_123, l32_125, d, y1, p0, l32_64]
            · unfold cf_92_29 cf_92_38 cf_92_45 cf_92_50
              simp (disch := omega) only [ev_S, ev_C, ↓reduceIte, Nat.reduceEqDiff, Nat.reduceLeDiff, Nat.reduceAdd, Nat.reduceMul, Nat.reduceSub, reduceCtorEq, l32_0, l32_1, l32_2, l32_3, l32_4, l32_5, l32_6, l32_7, l32_8, l32_9, l32_10, l32_11, l32_12, l32_13, l32_14, l32_15, l32_16, l32_17, l32_18, l32_19, l32_20, l32_21, l32_22, l32_23, l32_24, l32_25, l32_26, l32_27, l32_28, l32_29, l32_33, l32_40, l32_41, l32_44, l32_45, l32_59, l32_61, l32_91, l32_93, l32_123, l32_125, d, y1, p0, y2, l32_64]
          rw [E1]
          unfold cf_92_71 cf_92_76 cf_92_81 cf_92_85
          simp (disch := omega) only [ev_S, ev_C, ↓reduceIte, Nat.reduceEqDiff, Nat.reduceLeDiff, Nat.reduceAdd, Nat.reduceMul, Nat.reduceSub, reduceCtorEq, l32_0, l32_1, l32_2, l32_3, l32_4, l32_5, l32_6, l32_7, l32_8, l32_9, l32_10, l32_11, l32_12, l32_13, l32_14, l32_15, l32_16, l32_17, l32_18, l32_19, l32_20, l32_21, l32_22, l32_23, l32_24, l32_25, l32_26, l32_27, l32_28, l32_29, l32_33, l32_40, l32_41, l32_44, l32_45, l32_59, l32_61, l32_91, l32_93, l32_123, l32_125, y3, b1]
        · obtain ⟨q, hq, eq⟩ := i32nn y0
          subst eq
          rw [pz_o hq]
          by_cases c : 64 < q
          · rw [if_pos (Or.inr (Or.inl c))]
            refine ⟨t, _, ?_, cE.tr hh⟩
            unfold cf_92_29 cf_92_38 cf_92_66 cf_92_70
            simp (disch := omega) only [ev_S, ev_C, ↓reduceIte, Nat.reduceEqDiff, Nat.reduceLeDiff, Nat.reduceAdd, Nat.reduceMul, Nat.reduceSub, reduceCtorEq, l32_0, l32_1, l32_2, l32_3, l32_4, l32_5, l32_6, l32_7, l32_8, l32_9, l32_10, l32_11, l32_12, l32_13, l32_14, l32_15, l32_16, l32_17, l32_18, l32_19, l32_20, l32_21, l32_22, l32_23, l32_24, l32_25, l32_26, l32_27, l32_28, l32_29, l32_33, l32_40, l32_41, l32_44, l32_45, l32_59, l32_61, l32_91, l32_93, l32_123, l32_125, d, c, b2, l32_64]
          · have hmul : p * q ≤ 20 * 64 := Nat.mul_le_mul (by omega) (by omega)
            by_cases e : 200 < p * q
            · rw [if_pos (Or.inr (Or.inr e))]
              refine ⟨t, _, ?_, cE.tr hh⟩
              have e' : ¬ p * q ≤ 200 := by omega
              have p0 : ¬ p ≤ 0 := fun z => by rw [Nat.le_zero.mp z, Nat.zero_mul] at e; omega
              have q0 : ¬ q ≤ 0 := fun z => by rw [Nat.le_zero.mp z, Nat.mul_zero] at e; omega
              unfold cf_92_29 cf_92_38 cf_92_45 cf_92_50 cf_92_55 cf_92_66 cf_92_70
              simp (disch := omega) only [ev_S, ev_C, ↓reduceIte, Nat.reduceEqDiff, Nat.reduceLeDiff, Nat.reduceAdd, Nat.reduceMul, Nat.reduceSub, reduceCtorEq, l32_0, l32_1, l32_2, l32_3, l32_4, l32_5, l32_6, l32_7, l32_8, l32_9, l32_10, l32_11, l32_12, l32_13, l32_14, l32_15, l32_16, l32_17, l32_18, l32_19, l32_20, l32_21, l32_22, l32_23, l32_24, l32_25, l32_26, l32_27, l32_28, l32_29, l32_33, l32_40, l32_41, l32_44, l32_45, l32_59, l32_61, l32_91, l32_93, l32_123, l32_125, d, c, p0, q0, e', b2, l32_64, l32_200]
            · have e' : p * q ≤ 200 := by omega
              rw [if_neg (by omega), if_neg (fun z => z.elim z0 y0)]
              have ga := c_gathered (N := N) (X := X) hh
              have E1 : cf_92_29 N X (Int32.ofNat p) (Int32.ofNat q) t = cf_92_71 N X (Int32.ofNat p) (Int32.ofNat q) t := by
                by_cases p0 : p ≤ 0
                · unfold cf_92_29 cf_92_38 cf_92_45
                  simp (disch := omega) only [ev_S, ev_C, ↓reduceIte, Nat.reduceEqDiff, Nat.reduceLeDiff, Nat.reduceAdd, Nat.reduceMul, Nat.reduceSub, reduceCtorEq, l32_0, l32_1, l32_2, l32_3, l32_4, l32_5, l32_6, l32_7, l32_8, l32_9, l32_10, l32_11, l32_12, l32_13, l32_14, l32_15, l32_16, l32_17, l32_18, l32_19, l32_20, l32_21, l32_22, l32_23, l32_24, l32_25, l32_26, l32_27, l32_28, l32_29, l32_33, l32_40, l32_41, l32_44, l32_45, l32_59, l32_61, l32_91, l32_93, l32_123, l32_125, d, c, p0, l32_64]
                · by_cases q0 : q ≤ 0
                  · unfold cf_92_29 cf_92_38 cf_92_45 cf_92_50
                    simp (disch := omega) only [ev_S, ev_C, ↓reduceIte, Nat.reduceEqDiff, Nat.reduceLeDiff, Nat.reduceAdd, Nat.reduceMul, Nat.reduceSub, reduceCtorEq, l32_0, l32_1, l32_2, l32_3, l32_4, l32_5, l32_6, l32_7, l32_8, l32_9, l32_10, l32_11, l32_12, l32_13, l32_14, l32_15, l32_16, l32_17, l32_18, l32_19, l32_20, l32_21, l32_22, l32_23, l32_24, l32_25, l32_26, l32_27, l32_28, l32_29, l32_33, l32_40, l32_41, l32_44, l32_45, l32_59, l32_61, l32_91, l32_93, l32_123, l32_125, d, c, p0, q0, l32_64]
                  · unfold cf_92_29 cf_92_38 cf_92_45 cf_92_50 cf_92_55
                    simp (disch := omega) only [ev_S, ev_C, ↓reduceIte, Nat.reduceEqDiff, Nat.reduceLeDiff, Nat.reduceAdd, Nat.reduceMul, Nat.reduceSub, reduceCtorEq, l32_0, l32_1, l32_2, l32_3, l32_4, l32_5, l32_6, l32_7, l32_8, l32_9, l32_10, l32_11, l32_12, l32_13, l32_14, l32_15, l32_16, l32_17, l32_18, l32_19, l32_20, l32_21, l32_22, l32_23, l32_24, l32_25, l32_26, l32_27, l32_28, l32_29, l32_33, l32_40, l32_41, l32_44, l32_45, l32_59, l32_61, l32_91, l32_93, l32_123, l32_125, d, c, p0, q0, e', l32_64, l32_200]
              have E2 : cf_92_71 N X (Int32.ofNat p) (Int32.ofNat q) t = cf_92_L8 N X N 0 (Int32.ofNat p) (Int32.ofNat q) (Int32.ofNat w) (Int32.ofNat 0) t := by
                unfold cf_92_71 cf_92_76 cf_92_86 cf_92_93
                simp (disch := omega) only [ev_S, ev_C, ↓reduceIte, Nat.reduceEqDiff, Nat.reduceLeDiff, Nat.reduceAdd, Nat.reduceMul, Nat.reduceSub, reduceCtorEq, l32_0, l32_1, l32_2, l32_3, l32_4, l32_5, l32_6, l32_7, l32_8, l32_9, l32_10, l32_11, l32_12, l32_13, l32_14, l32_15, l32_16, l32_17, l32_18, l32_19, l32_20, l32_21, l32_22, l32_23, l32_24, l32_25, l32_26, l32_27, l32_28, l32_29, l32_33, l32_40, l32_41, l32_44, l32_45, l32_59, l32_61, l32_91, l32_93, l32_123, l32_125, ga]
              rw [E1, E2]
              have hle : ∀ i, i ≤ p → i * q ≤ 200 := fun i hi => Nat.le_trans (Nat.mul_le_mul_right q hi) e'
              refine lp (fun F i (t' : cS) => cf_92_L8 N X F 0 (Int32.ofNat p) (Int32.ofNat q) (Int32.ofNat w) (Int32.ofNat i) t') p (fun i t' => cG t t' u (u + (i + i * q)) w ((List.replicate i (zer q)).map nR)) (fun R => ∃ t' v, R = some (t', .inl (some (.long v))) ∧ cE t t' u v (ansM 2 ((List.replicate p (zer q)).map nR))) ?_ ?_ p 0 N t (Nat.zero_add _) (by omega) (by rw [Nat.zero_mul]; exact cG.nil hh)
              · intro F i t1 hi G _
                left
                have hli : (List.replicate i (zer q)).length = i := List.length_replicate
                have hll : ((List.replicate i (zer q)).map nR).length = i := by rw [List.length_map, hli]
                have hsi := hle i (by omega)
                have n1 : ¬ p ≤ i := by omega
                obtain ⟨t2, v, r1, r2, r3⟩ := c_zeros (N := N) (X := X) (q := q) hN G.c (by omega) (by rw [hll]; omega) (by omega)
                obtain ⟨t3, p1, p2⟩ := cG.addRow (N := N) (X := X) G r2 r3 (by rw [hll]; omega)
                refine ⟨t3, ?_, ?_⟩
                · rw [rep_s, List.map_append]
                  have e : u + (i + 1 + (i + 1) * q) = u + (i + i * q) + 1 + q := by rw [Nat.succ_mul]; omega
                  rw [e]
                  exact p2
                · show cf_92_98 N X (cf_92_L8 N X F) (Int32.ofNat p) (Int32.ofNat q) (Int32.ofNat w) (Int32.ofNat i) t1 = _
                  unfold cf_92_98 cf_92_105 cf_92_115 cf_92_118
                  simp (disch := omega) only [ev_S, ev_C, ↓reduceIte, Nat.reduceEqDiff, Nat.reduceLeDiff, Nat.reduceAdd, Nat.reduceMul, Nat.reduceSub, reduceCtorEq, l32_0, l32_1, l32_2, l32_3, l32_4, l32_5, l32_6, l32_7, l32_8, l32_9, l32_10, l32_11, l32_12, l32_13, l32_14, l32_15, l32_16, l32_17, l32_18, l32_19, l32_20, l32_21, l32_22, l32_23, l32_24, l32_25, l32_26, l32_27, l32_28, l32_29, l32_33, l32_40, l32_41, l32_44, l32_45, l32_59, l32_61, l32_91, l32_93, l32_123, l32_125, n1, r1, p1]
              · intro F t1 G
                have hs2 := rep_sum (q := p) (k := q)
                have hlp : (List.replicate p (zer q)).length = p := List.length_replicate
                obtain ⟨t2, v, b1, b2⟩ := cG.bT (N := N) (X := X) hN G (fun r hr => by
                  rw [(List.mem_replicate.mp hr).2]
                  show (zer q).length ≤ 64
                  rw [show (zer q).length = q from List.length_replicate]
                  omega) (by rw [hlp, hs2]; omega) (by rw [hlp, hs2]; omega) (by omega) (by omega)
                refine ⟨t2, v, ?_, b2⟩
                show cf_92_98 N X (cf_92_L8 N X F) (Int32.ofNat p) (Int32.ofNat q) (Int32.ofNat w) (Int32.ofNat p) t1 = _
                unfold cf_92_98 cf_92_124 cf_92_134
                simp (disch := omega) only [ev_S, ev_C, ↓reduceIte, Nat.reduceEqDiff, Nat.reduceLeDiff, Nat.reduceAdd, Nat.reduceMul, Nat.reduceSub, reduceCtorEq, l32_0, l32_1, l32_2, l32_3, l32_4, l32_5, l32_6, l32_7, l32_8, l32_9, l32_10, l32_11, l32_12, l32_13, l32_14, l32_15, l32_16, l32_17, l32_18, l32_19, l32_20, l32_21, l32_22, l32_23, l32_24, l32_25, l32_26, l32_27, l32_28, l32_29, l32_33, l32_40, l32_41, l32_44, l32_45, l32_59, l32_61, l32_91, l32_93, l32_123, l32_125, b1]
  · rw [if_neg c0]
    refine ⟨t, _, ?_, cE.tr hh⟩
    have b1 := T (Int32.ofNat 3)
    generalize kn x = kx' at *
    generalize kn y = ky' at *
    by_cases c : kx' = 0
    · have d : ¬ ky' = 0 := fun z => c0 ⟨c, z⟩
      repeat ((first | unfold cf_92 | unfold cf_92_0 | unfold cf_92_4 | unfold cf_92_7 | unfold cf_92_11 | unfold cf_92_14 | unfold cf_92_18 | unfold cf_92_19 | unfold cf_92_23 | unfold cf_92_29 | unfold cf_92_38 | unfold cf_92_45 | unfold cf_92_50 | unfold cf_92_55 | unfold cf_92_66 | unfold cf_92_70 | unfold cf_92_71 | unfold cf_92_76 | unfold cf_92_81 | unfold cf_92_85 | unfold cf_92_86 | unfold cf_92_93 | unfold cf_92_98 | unfold cf_92_105 | unfold cf_92_115 | unfold cf_92_118 | unfold cf_92_124 | unfold cf_92_134); try simp (disch := omega) only [ev_S, ev_C, ↓reduceIte, Nat.reduceEqDiff, Nat.reduceLeDiff, Nat.reduceAdd, Nat.reduceMul, Nat.reduceSub, reduceCtorEq, l32_0, l32_1, l32_2, l32_3, l32_4, l32_20, l32_64, l32_200, kx, ky, c, d, b1])
    · repeat ((first | unfold cf_92 | unfold cf_92_0 | unfold cf_92_4 | unfold cf_92_7 | unfold cf_92_11 | unfold cf_92_14 | unfold cf_92_18 | unfold cf_92_19 | unfold cf_92_23 | unfold cf_92_29 | unfold cf_92_38 | unfold cf_92_45 | unfold cf_92_50 | unfold cf_92_55 | unfold cf_92_66 | unfold cf_92_70 | unfold cf_92_71 | unfold cf_92_76 | unfold cf_92_81 | unfold cf_92_85 | unfold cf_92_86 | unfold cf_92_93 | unfold cf_92_98 | unfold cf_92_105 | unfold cf_92_115 | unfold cf_92_118 | unfold cf_92_124 | unfold cf_92_134); try simp (disch := omega) only [ev_S, ev_C, ↓reduceIte, Nat.reduceEqDiff, Nat.reduceLeDiff, Nat.reduceAdd, Nat.reduceMul, Nat.reduceSub, reduceCtorEq, l32_0, l32_1, l32_2, l32_3, l32_4, l32_20, l32_64, l32_200, kx, ky, c, b1])
end GRC
