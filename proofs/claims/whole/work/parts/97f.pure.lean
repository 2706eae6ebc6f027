/-! ===== PURE: run (59): take: the class ===== -/
theorem lgI_ge {a b : Int64} : (0 ≤ lg_cmp a b) ↔ b.toInt ≤ a.toInt := by
  unfold lg_cmp
  by_cases c : a > b
  · rw [if_pos c]
    have c : b < a := c
    rw [Int64.lt_iff_toInt_lt] at c
    exact ⟨fun _ => Int.le_of_lt c, fun _ => by decide⟩
  · rw [if_neg c]
    have c' : a.toInt ≤ b.toInt := by
      have : ¬ b < a := c
      rw [Int64.lt_iff_toInt_lt] at this
      exact Int.not_lt.mp this
    by_cases d : a = b
    · rw [if_pos d, d]
      exact ⟨fun _ => Int.le_refl _, fun _ => by decide⟩
    · rw [if_neg d]
      refine ⟨fun q => absurd q (by decide), fun q => absurd (Int64.toInt.inj (Int.le_antisymm c' q)) d⟩
theorem tkF_t {neg : Bool} {S W j : Nat} (hS : S ≤ 64) (hW : W ≤ 64) (hj : j ≤ 64) : (tkF neg S W + Int32.ofNat j).toInt = (if neg = true then (S : Int) - W else 0) + j := by
  cases neg with
  | false =>
    rw [tkF_z, i32t (by omega), if_neg (by intro q; cases q)]
    omega
  | true =>
    rw [if_pos rfl]
    exact sub_t hS hW hj
section TKC
variable {N : Nat} {X : Nat → Option zz_C} {t t' : cS} {u u' w : Nat} {x y : Nod} {vx vy v : Int64} {xs : List Nod}
theorem c_tke (hN : 170000 ≤ N) (hh : cHp t u w) (hx : cN (cel t) u vx x) (hy : cN (cel t) u vy y) (wy : wfN y) (dy : y.1 ≤ 4) (hu : u ≤ 162000) (hw : w ≤ 1000) : ∃ t' v, cf_109 N X vx vy t = some (t', .inl (some (.long v))) ∧ cE t t' u v (if kn x = 0 ∧ ¬ kn y = 0 then ansTk y (ivN x) else .inl 3) := by
  have kx := c_kn (N := N) (X := X) hx
  have ky := c_kn (N := N) (X := X) hy
  have lx := kn_le (x := x)
  have ly := kn_le (x := y)
  by_cases c : kn x = 0 ∧ ¬ kn y = 0
  · rw [if_pos c]
    obtain ⟨c0, h0⟩ := c
    have zy := c_sizeN (N := N) (X := X) hh hy
    have ga := c_gathered (N := N) (X := X) hh
    have ex := hx.z c0
    have lo := c_lowOf (N := N) (X := X) (t := t) (k := 0) (a := ivN x)
    rw [← ex] at lo
    rw [c0] at kx
    have hpl : (pts y).length = szN y := pts_len
    have s64 := wf64 wy
    generalize ivN x = z at *
    have hW := wN_le z
    have E1 : cf_109 N X vx vy t = cf_109_27 N X vy (Int32.ofNat (kn y)) z t := by
      generalize kn y = ky' at *
      unfold cf_109 cf_109_0 cf_109_4 cf_109_10 cf_109_13 cf_109_23
      simp (disch := omega) only [ev_S, ev_C, ↓reduceIte, Nat.reduceEqDiff, Nat.reduceLeDiff, Nat.reduceAdd, Nat.reduceMul, Nat.reduceSub, reduceCtorEq, l32_0, l32_1, l32_2, l32_3, l32_4, l32_5, l32_6, l32_7, l32_8, l32_9, l32_10, l32_11, l32_12, l32_13, l32_14, l32_15, l32_16, l32_17, l32_18, l32_19, l32_20, l32_21, l32_22, l32_23, l32_24, l32_25, l32_26, l32_27, l32_28, l32_29, l32_33, l32_40, l32_41, l32_44, l32_45, l32_59, l32_61, l32_91, l32_93, l32_123, l32_125, kx, ky, h0, lo]
    have E2 : cf_109_27 N X vy (Int32.ofNat (kn y)) z t = cf_109_52 N X vy (Int32.ofNat (kn y)) (Int32.toInt64 z) (Int64.ofNat (wN z)) (Int64.ofNat (wN z)) (Int32.ofNat (if kn y = 1 then 64 else 20)) t := by
      unfold cf_109_27
      rw [abs64]
      by_cases d : kn y = 1
      · rw [if_neg (show ¬ ¬ Int32.ofNat (kn y) = 1 from fun q => q (by rw [d]; rfl)), if_pos d]
        rfl
      · rw [if_pos (show ¬ Int32.ofNat (kn y) = 1 from fun q => d (ofNat_inj (by omega) (by omega) q)), if_neg d]
        rfl
    rw [E1, E2]
    have hlim : (if kn y = 1 then 64 else 20) ≤ 64 := by split <;> omega
    have hl := lg_le (a := wN z) (b := if kn y = 1 then 64 else 20) (by omega) (by omega)
    unfold ansTk
    unfold cf_109_52
    rw [i64of32 (show (if kn y = 1 then 64 else 20) < 2147483648 by omega)]
    by_cases d : (if kn y = 1 then 64 else 20) < wN z
    · rw [if_pos d, if_neg (show ¬ lg_cmp (Int64.ofNat (wN z)) (Int64.ofNat (if kn y = 1 then 64 else 20)) ≤ 0 from fun q => absurd (hl.mp q) (by omega))]
      refine ⟨t, _, ?_, cE.tr hh⟩
      have b1 := c_rf (N := N) (X := X) (t := t) (k := Int32.ofNat 2)
      unfold cf_109_57 cf_109_61
      simp (disch := omega) only [ev_S, ev_C, ↓reduceIte, Nat.reduceEqDiff, Nat.reduceLeDiff, Nat.reduceAdd, Nat.reduceMul, Nat.reduceSub, reduceCtorEq, l32_0, l32_1, l32_2, l32_3, l32_4, l32_5, l32_6, l32_7, l32_8, l32_9, l32_10, l32_11, l32_12, l32_13, l32_14, l32_15, l32_16, l32_17, l32_18, l32_19, l32_20, l32_21, l32_22, l32_23, l32_24, l32_25, l32_26, l32_27, l32_28, l32_29, l32_33, l32_40, l32_41, l32_44, l32_45, l32_59, l32_61, l32_91, l32_93, l32_123, l32_125, b1]
    · rw [if_neg d, if_pos (show lg_cmp (Int64.ofNat (wN z)) (Int64.ofNat (if kn y = 1 then 64 else 20)) ≤ 0 from hl.mpr (by omega))]
      have hW6 : wN z ≤ 64 := by omega
      obtain ⟨F0, hF0⟩ : ∃ F0, F0 = tkF (decide (z < 0)) (szN y) (wN z) := ⟨_, rfl⟩
      have E3 : cf_109_62 N X vy (Int32.ofNat (kn y)) (Int32.toInt64 z) (Int64.ofNat (wN z)) t = cf_109_99 N X vy (Int32.ofNat (kn y)) (Int64.ofNat (wN z)) (Int32.ofNat (szN y)) F0 (Int32.ofNat w) t := by
        have E : cf_109_62 N X vy (Int32.ofNat (kn y)) (Int32.toInt64 z) (Int64.ofNat (wN z)) t = cf_109_70 N X vy (Int32.ofNat (kn y)) (Int32.toInt64 z) (Int64.ofNat (wN z)) (Int32.ofNat (szN y)) t := by
          generalize Int64.ofNat (wN z) = WW
          unfold cf_109_62
          simp (disch := omega) only [ev_S, ev_C, ↓reduceIte, Nat.reduceEqDiff, Nat.reduceLeDiff, Nat.reduceAdd, Nat.reduceMul, Nat.reduceSub, reduceCtorEq, l32_0, l32_1, l32_2, l32_3, l32_4, l32_5, l32_6, l32_7, l32_8, l32_9, l32_10, l32_11, l32_12, l32_13, l32_14, l32_15, l32_16, l32_17, l32_18, l32_19, l32_20, l32_21, l32_22, l32_23, l32_24, l32_25, l32_26, l32_27, l32_28, l32_29, l32_33, l32_40, l32_41, l32_44, l32_45, l32_59, l32_61, l32_91, l32_93, l32_123, l32_125, zy]
        have G : ∀ q, cf_109_90 N X vy (Int32.ofNat (kn y)) (Int64.ofNat (wN z)) (Int32.ofNat (szN y)) q t = cf_109_99 N X vy (Int32.ofNat (kn y)) (Int64.ofNat (wN z)) (Int32.ofNat (szN y)) q (Int32.ofNat w) t := fun q => by
          generalize Int64.ofNat (wN z) = WW
          unfold cf_109_90
          simp (disch := omega) only [ev_S, ev_C, ↓reduceIte, Nat.reduceEqDiff, Nat.reduceLeDiff, Nat.reduceAdd, Nat.reduceMul, Nat.reduceSub, reduceCtorEq, l32_0, l32_1, l32_2, l32_3, l32_4, l32_5, l32_6, l32_7, l32_8, l32_9, l32_10, l32_11, l32_12, l32_13, l32_14, l32_15, l32_16, l32_17, l32_18, l32_19, l32_20, l32_21, l32_22, l32_23, l32_24, l32_25, l32_26, l32_27, l32_28, l32_29, l32_33, l32_40, l32_41, l32_44, l32_45, l32_59, l32_61, l32_91, l32_93, l32_123, l32_125, ga]
        rw [E]
        unfold cf_109_70
        by_cases g : z < 0
        · rw [if_neg (fun q => (lg_ge0.mp q) g)]
          unfold cf_109_79
          rw [G, hF0, decide_eq_true g, Int64.toInt32_sub, i64_32, t32 (by omega)]
          rfl
        · rw [if_pos (lg_ge0.mpr g)]
          unfold cf_109_89
          rw [G, hF0, decide_eq_false g]
          rfl
      rw [E3]
      generalize decide (z < 0) = neg at *
      generalize wN z = W at *
      -- what fills
      have E4 : ∃ t1 u1 fv, u ≤ u1 ∧ u1 ≤ u + 1 ∧ cG t t1 u u1 w [] ∧ cN (cel t1) u1 fv (filN y) ∧ cf_109_99 N X vy (Int32.ofNat (kn y)) (Int64.ofNat W) (Int32.ofNat (szN y)) F0 (Int32.ofNat w) t = cf_109_L4 N X N 0 (Int32.ofNat (szN y)) F0 (Int32.ofNat w) fv F0 vy (Int32.ofNat (kn y)) (Int64.ofNat W) t1 := by
        unfold filN
        by_cases k2 : kn y = 2
        · rw [if_pos k2]
          obtain ⟨t1, fv, r1, r2, r3⟩ := c_zeros (N := N) (X := X) (q := 0) hN hh (by omega) (by omega) (by omega)
          refine ⟨t1, u + 1 + 0, fv, by omega, by omega, r2, r3, ?_⟩
          rw [k2]
          generalize Int64.ofNat W = WW
          generalize szN y = sy at *
          unfold cf_109_99 cf_109_107 cf_109_112 cf_109_120
          simp (disch := omega) only [ev_S, ev_C, ↓reduceIte, Nat.reduceEqDiff, Nat.reduceLeDiff, Nat.reduceAdd, Nat.reduceMul, Nat.reduceSub, reduceCtorEq, l32_0, l32_1, l32_2, l32_3, l32_4, l32_5, l32_6, l32_7, l32_8, l32_9, l32_10, l32_11, l32_12, l32_13, l32_14, l32_15, l32_16, l32_17, l32_18, l32_19, l32_20, l32_21, l32_22, l32_23, l32_24, l32_25, l32_26, l32_27, l32_28, l32_29, l32_33, l32_40, l32_41, l32_44, l32_45, l32_59, l32_61, l32_91, l32_93, l32_123, l32_125, r1]
        · rw [if_neg k2]
          refine ⟨t, u, tg (Int32.ofNat 0) (Int32.ofNat 0), Nat.le_refl _, by omega, cG.nil hh, cN_Z, ?_⟩
          have th := c_thing (N := N) (X := X) (t := t) (k := Int32.ofNat 0) (a := Int32.ofNat 0)
          generalize Int64.ofNat W = WW
          generalize szN y = sy at *
          generalize kn y = ky' at *
          unfold cf_109_99 cf_109_115 cf_109_120
          simp (disch := omega) only [ev_S, ev_C, ↓reduceIte, Nat.reduceEqDiff, Nat.reduceLeDiff, Nat.reduceAdd, Nat.reduceMul, Nat.reduceSub, reduceCtorEq, l32_0, l32_1, l32_2, l32_3, l32_4, l32_5, l32_6, l32_7, l32_8, l32_9, l32_10, l32_11, l32_12, l32_13, l32_14, l32_15, l32_16, l32_17, l32_18, l32_19, l32_20, l32_21, l32_22, l32_23, l32_24, l32_25, l32_26, l32_27, l32_28, l32_29, l32_33, l32_40, l32_41, l32_44, l32_45, l32_59, l32_61, l32_91, l32_93, l32_123, l32_125, k2, th]
      obtain ⟨t1, u1, fv, hu1, hu2, G1, hfv, E4⟩ := E4
      rw [E4]
      have hy1 := G1.up hy
      have goal : ∃ t' v, cf_109_L4 N X N 0 (Int32.ofNat (szN y)) F0 (Int32.ofNat w) fv (F0 + Int32.ofNat 0) vy (Int32.ofNat (kn y)) (Int64.ofNat W) t1 = some (t', .inl (some (.long v))) ∧ cE t t' u v (ansM (kn y) ((List.range W).map (tkP y neg W))) := by
        have endc : ∀ j, j ≤ W → ((0 ≤ lg_cmp (Int32.toInt64 (F0 + Int32.ofNat j)) (Int32.toInt64 F0 + Int64.ofNat W)) ↔ W ≤ j) := fun j hj => by
          have t0 := tkF_t (neg := neg) (S := szN y) (W := W) (j := 0) s64 hW6 (by omega)
          have tj := tkF_t (neg := neg) (S := szN y) (W := W) (j := j) s64 hW6 (by omega)
          rw [← hF0] at t0 tj
          rw [show F0 + Int32.ofNat 0 = F0 from Int32.add_zero F0] at t0
          have zb := z64_b F0
          rw [lgI_ge, i64add_t (by omega) (by omega) (by rw [i64t (by omega)]; omega) (by rw [i64t (by omega)]; omega), Int32.toInt_toInt64, Int32.toInt_toInt64, t0, tj, i64t (by omega)]
          omega
        refine lp (fun F j (t' : cS) => cf_109_L4 N X F 0 (Int32.ofNat (szN y)) F0 (Int32.ofNat w) fv (F0 + Int32.ofNat j) vy (Int32.ofNat (kn y)) (Int64.ofNat W) t') W (fun j t' => cG t t' u u1 w ((List.range j).map (tkP y neg W)) ∧ cN (cel t') u1 fv (filN y)) (fun R => ∃ t' v, R = some (t', .inl (some (.long v))) ∧ cE t t' u v (ansM (kn y) ((List.range W).map (tkP y neg W)))) ?_ ?_ W 0 N t1 (Nat.zero_add _) (by omega) ⟨G1, hfv⟩
        · intro F j t2 hj hP _
          left
          obtain ⟨G, hf2⟩ := hP
          have hll : ((List.range j).map (tkP y neg W)).length = j := by rw [List.length_map, List.length_range]
          have es : F0 + Int32.ofNat (j + 1) = F0 + Int32.ofNat j + 1 := by
            rw [hF0]
            exact tkF_s
          have E5 : cf_109_L4 N X (F + 1) 0 (Int32.ofNat (szN y)) F0 (Int32.ofNat w) fv (F0 + Int32.ofNat j) vy (Int32.ofNat (kn y)) (Int64.ofNat W) t2 = cf_109_139 N X (cf_109_L4 N X F) vy (Int32.ofNat (kn y)) (Int64.ofNat W) (Int32.ofNat (szN y)) F0 (Int32.ofNat w) fv (F0 + Int32.ofNat j) t2 := by
            show cf_109_126 N X (cf_109_L4 N X F) vy (Int32.ofNat (kn y)) (Int64.ofNat W) (Int32.ofNat (szN y)) F0 (Int32.ofNat w) fv (F0 + Int32.ofNat j) t2 = _
            unfold cf_109_126
            rw [if_neg (fun q => absurd ((endc j (by omega)).mp q) (by omega))]
          have keep : ∀ {p : Nod} {pv : Int64}, cN (cel t2) u1 pv p → tkP y neg W j = p → ∃ t3, cf_123 N X pv t2 = some (t3, .inl none) ∧ cG t t3 u u1 w ((List.range (j + 1)).map (tkP y neg W)) ∧ cN (cel t3) u1 fv (filN y) := fun {p pv} hp ep => by
            obtain ⟨t3, p1, p2⟩ := cG.put (N := N) (X := X) G (by rw [hll]; omega) hp
            obtain ⟨t4, q1, q2, q3, q4, -⟩ := c_put1 (N := N) (X := X) (v := pv) G.1 (by rw [hll]; omega)
            rw [p1] at q1
            cases q1
            refine ⟨t3, p1, ?_, ?_⟩
            · rw [range_map_s, ep]
              exact p2
            · have ec : cel t3 = cel t2 := by show (kB t3 43).2 = _; rw [q4]
              rw [ec]
              exact hf2
          show ∃ a' : cS, _ ∧ cf_109_L4 N X (F + 1) 0 _ _ _ _ _ _ _ _ t2 = _
          rw [E5, es]
          cases ht : tkI neg (szN y) W j with
          | some k =>
            obtain ⟨k1, k2⟩ := tkI_some s64 hW6 hj ht
            rw [← hF0] at k2
            have ep : tkP y neg W j = (pts y)[k]'(by omega) := by
              unfold tkP
              rw [ht]
              exact getD_e (by omega)
            obtain ⟨v', d1, d2⟩ := c_part (N := N) (X := X) G.c (G.up hy) (i := k) (by omega)
            obtain ⟨t3, p1, p2, p3⟩ := keep d2 ep
            refine ⟨t3, ⟨p2, p3⟩, ?_⟩
            rw [k2]
            have n1 : ¬ szN y ≤ k := by omega
            unfold cf_109_139
            rw [if_neg (i32n (by omega))]
            unfold cf_109_148
            rw [if_neg (fun q => n1 ((i32le (by omega) (by omega)).mp q))]
            unfold cf_109_155 cf_109_165 cf_109_170 cf_109_173
            simp (disch := omega) only [ev_S, ev_C, ↓reduceIte, Nat.reduceEqDiff, Nat.reduceLeDiff, Nat.reduceAdd, Nat.reduceMul, Nat.reduceSub, reduceCtorEq, l32_0, l32_1, l32_2, l32_3, l32_4, l32_5, l32_6, l32_7, l32_8, l32_9, l32_10, l32_11, l32_12, l32_13, l32_14, l32_15, l32_16, l32_17, l32_18, l32_19, l32_20, l32_21, l32_22, l32_23, l32_24, l32_25, l32_26, l32_27, l32_28, l32_29, l32_33, l32_40, l32_41, l32_44, l32_45, l32_59, l32_61, l32_91, l32_93, l32_123, l32_125, d1, p1]
          | none =>
            have hno := tkI_none s64 hW6 hj ht
            rw [← hF0] at hno
            have ep : tkP y neg W j = filN y := by
              unfold tkP
              rw [ht]
            obtain ⟨t3, p1, p2, p3⟩ := keep hf2 ep
            refine ⟨t3, ⟨p2, p3⟩, ?_⟩
            have E6 : cf_109_139 N X (cf_109_L4 N X F) vy (Int32.ofNat (kn y)) (Int64.ofNat W) (Int32.ofNat (szN y)) F0 (Int32.ofNat w) fv (F0 + Int32.ofNat j) t2 = cf_109_168 N X (cf_109_L4 N X F) vy (Int32.ofNat (kn y)) (Int64.ofNat W) (Int32.ofNat (szN y)) F0 (Int32.ofNat w) fv (F0 + Int32.ofNat j) t2 := by
              unfold cf_109_139
              by_cases c1 : F0 + Int32.ofNat j < 0
              · rw [if_pos c1]
              · rw [if_neg c1]
                unfold cf_109_148
                rw [if_pos (hno.resolve_left c1)]
            rw [E6]
            generalize F0 + Int32.ofNat j = e at *
            generalize Int64.ofNat W = WW at *
            generalize szN y = sy at *
            generalize kn y = ky' at *
            unfold cf_109_168 cf_109_170 cf_109_173
            simp (disch := omega) only [ev_S, ev_C, ↓reduceIte, Nat.reduceEqDiff, Nat.reduceLeDiff, Nat.reduceAdd, Nat.reduceMul, Nat.reduceSub, reduceCtorEq, l32_0, l32_1, l32_2, l32_3, l32_4, l32_5, l32_6, l32_7, l32_8, l32_9, l32_10, l32_11, l32_12, l32_13, l32_14, l32_15, l32_16, l32_17, l32_18, l32_19, l32_20, l32_21, l32_22, l32_23, l32_24, l32_25, l32_26, l32_27, l32_28, l32_29, l32_33, l32_40, l32_41, l32_44, l32_45, l32_59, l32_61, l32_91, l32_93, l32_123, l32_125, p1]
        · intro F t2 hP
          obtain ⟨G, -⟩ := hP
          have hll : ((List.range W).map (tkP y neg W)).length = W := by rw [List.length_map, List.length_range]
          have ok := tkP_ok (x := y) h0 wy dy (W := W) (neg := neg)
          obtain ⟨t3, v, b1, b2⟩ := cG.build (N := N) (X := X) (k := kn y) hN G ok.1 ok.2.1 ok.2.2 (by rw [hll]; omega) (by omega) (by omega) (by omega) (by omega)
          refine ⟨t3, v, ?_, b2⟩
          show cf_109_126 N X (cf_109_L4 N X F) vy (Int32.ofNat (kn y)) (Int64.ofNat W) (Int32.ofNat (szN y)) F0 (Int32.ofNat w) fv (F0 + Int32.ofNat W) t2 = _
          unfold cf_109_126
          rw [if_pos ((endc W (Nat.le_refl _)).mpr (Nat.le_refl _))]
          generalize kn y = ky' at *
          unfold cf_109_179 cf_109_190
          simp (disch := omega) only [ev_S, ev_C, ↓reduceIte, Nat.reduceEqDiff, Nat.reduceLeDiff, Nat.reduceAdd, Nat.reduceMul, Nat.reduceSub, reduceCtorEq, l32_0, l32_1, l32_2, l32_3, l32_4, l32_5, l32_6, l32_7, l32_8, l32_9, l32_10, l32_11, l32_12, l32_13, l32_14, l32_15, l32_16, l32_17, l32_18, l32_19, l32_20, l32_21, l32_22, l32_23, l32_24, l32_25, l32_26, l32_27, l32_28, l32_29, l32_33, l32_40, l32_41, l32_44, l32_45, l32_59, l32_61, l32_91, l32_93, l32_123, l32_125, b1]
      rw [show F0 + Int32.ofNat 0 = F0 from Int32.add_zero F0] at goal
      exact goal
  · rw [if_neg c]
    refine ⟨t, _, ?_, cE.tr hh⟩
    have b1 := c_rf (N := N) (X := X) (t := t) (k := Int32.ofNat 3)
    generalize kn x = kx' at *
    generalize kn y = ky' at *
    by_cases d : kx' = 0
    · have e : ky' = 0 := Classical.byContradiction (fun q => c ⟨d, q⟩)
      unfold cf_109 cf_109_0 cf_109_4 cf_109_10 cf_109_13 cf_109_18 cf_109_22
      simp (disch := omega) only [ev_S, ev_C, ↓reduceIte, Nat.reduceEqDiff, Nat.reduceLeDiff, Nat.reduceAdd, Nat.reduceMul, Nat.reduceSub, reduceCtorEq, l32_0, l32_1, l32_2, l32_3, l32_4, l32_5, l32_6, l32_7, l32_8, l32_9, l32_10, l32_11, l32_12, l32_13, l32_14, l32_15, l32_16, l32_17, l32_18, l32_19, l32_20, l32_21, l32_22, l32_23, l32_24, l32_25, l32_26, l32_27, l32_28, l32_29, l32_33, l32_40, l32_41, l32_44, l32_45, l32_59, l32_61, l32_91, l32_93, l32_123, l32_125, kx, ky, d, e, b1]
    · unfold cf_109 cf_109_0 cf_109_4 cf_109_10 cf_109_18 cf_109_22
      simp (disch := omega) only [ev_S, ev_C, ↓reduceIte, Nat.reduceEqDiff, Nat.reduceLeDiff, Nat.reduceAdd, Nat.reduceMul, Nat.reduceSub, reduceCtorEq, l32_0, l32_1, l32_2, l32_3, l32_4, l32_5, l32_6, l32_7, l32_8, l32_9, l32_10, l32_11, l32_12, l32_13, l32_14, l32_15, l32_16, l32_17, l32_18, l32_19, l32_20, l32_21, l32_22, l32_23, l32_24, l32_25, l32_26, l32_27, l32_28, l32_29, l32_33, l32_40, l32_41, l32_44, l32_45, l32_59, l32_61, l32_91, l32_93, l32_123, l32_125, kx, ky, d, b1]
end TKC
