/-! ===== PURE: run (37): rows, the class ===== -/
section RWC
variable {N : Nat} {X : Nat → Option zz_C} {t t' : cS} {u w : Nat} {x : Nod} {vx : Int64}
theorem i64o (n : Nat) : Int64.ofNat n + Int64.ofNat 0 = Int64.ofNat n := by rw [← Int64.ofNat_add, Nat.add_zero]
theorem pz_64 {z : Int32} : Int32.toInt64 (if z < 0 then 0 else z) = Int64.ofNat (pz z) := by
  by_cases h : z < 0
  · rw [if_pos h, pz_n h]
    rfl
  · obtain ⟨p, hp, rfl⟩ := i32nn h
    rw [if_neg h, pz_o hp, i64of32 hp]
theorem mx_s {g : Nat} {z : Int32} (hg : g < 2147483648) : (if Int32.ofNat g < z then z else Int32.ofNat g) = Int32.ofNat (Nat.max g (pz z)) := by
  by_cases h : z < 0
  · rw [if_neg (i32neg h hg).2.2.2, pz_n h]
    congr 1
    exact (Nat.max_eq_left (Nat.zero_le _)).symm
  · obtain ⟨p, hp, rfl⟩ := i32nn h
    rw [pz_o hp]
    by_cases c : g < p
    · rw [if_pos ((i32lt hg hp).mpr c)]
      congr 1
      exact (Nat.max_eq_right (Nat.le_of_lt c)).symm
    · rw [if_neg (fun q => c ((i32lt hg hp).mp q))]
      congr 1
      exact (Nat.max_eq_left (Nat.not_lt.mp c)).symm
theorem c_rws (hN : 170000 ≤ N) (hh : cHp t u w) (hx : cN (cel t) u vx x) (wx : wfN x) (hu : u ≤ 162000) (hw : w ≤ 1000) : ∃ t' v, cf_93 N X vx t = some (t', .inl (some (.long v))) ∧ cE t t' u v (if kn x = 1 then ansW (rvN x) else .inl 3) := by
  have kx := c_kn (N := N) (X := X) hx
  have lx := kn_le (x := x)
  have T := fun k => c_rf (N := N) (X := X) (t := t) (k := k)
  by_cases c1 : kn x = 1
  · rw [if_pos c1]
    have hrv := hx.r c1
    have zx := c_size (N := N) (X := X) hh hx
    have zx : cf_128 N X vx t = some (t, .inl (some (.int (Int32.ofNat (szN x))))) := zx
    rw [kn1_sz c1] at zx
    have hr := rv_wf c1 wx
    have ga := c_gathered (N := N) (X := X) hh
    rw [c1] at kx
    have UP : ∀ {t' u' ys}, cG t t' u u' w ys → cV (cel t') u' vx (vR (rvN x)) := fun {t' u' ys} G => (G.up hx).r c1
    generalize rvN x = r at *
    have E1 : cf_93 N X vx t = cf_93_L13 N X N 0 vx (Int32.ofNat r.length) (Int32.ofNat 0) (Int32.ofNat 0) (Int64.ofNat 0) (Int32.ofNat 0) t := by
      unfold cf_93 cf_93_0 cf_93_4 cf_93_13 cf_93_21
      simp (disch := omega) only [ev_S, ev_C, ↓reduceIte, Nat.reduceEqDiff, Nat.reduceLeDiff, Nat.reduceAdd, Nat.reduceMul, Nat.reduceSub, reduceCtorEq, l32_0, l32_1, l32_2, l32_3, l32_4, l32_5, l32_6, l32_7, l32_8, l32_9, l32_10, l32_11, l32_12, l32_13, l32_14, l32_15, l32_16, l32_17, l32_18, l32_19, l32_20, l32_21, l32_22, l32_23, l32_24, l32_25, l32_26, l32_27, l32_28, l32_29, l32_33, l32_40, l32_41, l32_44, l32_45, l32_59, l32_61, l32_91, l32_93, l32_123, l32_125, kx, zx]
      rfl
    have hsb : ∀ i, ((r.take i).map pz).sum ≤ 2147483648 * i ∧ mxL ((r.take i).map pz) < 2147483648 := fun i => by
      have : ∀ l : List Int32, (l.map pz).sum ≤ 2147483648 * l.length ∧ mxL (l.map pz) < 2147483648 := fun l => by
        induction l with
        | nil => exact ⟨Nat.le_refl _, by show (0 : Nat) < _; omega⟩
        | cons z l ih =>
          have h1 := pz_lt (z := z)
          refine ⟨?_, ?_⟩
          · rw [List.map_cons, List.sum_cons, List.length_cons]
            omega
          · rw [List.map_cons]
            show Nat.max (pz z) (mxL (l.map pz)) < _
            exact Nat.max_lt.mpr ⟨h1, ih.2⟩
      have h3 := this (r.take i)
      rw [List.length_take] at h3
      exact ⟨by omega, h3.2⟩
    have mxa : ∀ l : List Nat, ∀ y, mxL (l ++ [y]) = Nat.max (mxL l) y := fun l y => by
      induction l with
      | nil =>
        show Nat.max y 0 = Nat.max 0 y
        rw [show Nat.max y 0 = y from Nat.max_eq_left (Nat.zero_le _), show Nat.max 0 y = y from Nat.max_eq_right (Nat.zero_le _)]
      | cons z l ih =>
        show Nat.max z (mxL (l ++ [y])) = Nat.max (Nat.max z (mxL l)) y
        rw [ih]
        exact (Nat.max_assoc _ _ _).symm
    have E2 : ∃ l0, lst0 l0 (r.any fun z => decide (z < 0)) ∧ cf_93_L13 N X N 0 vx (Int32.ofNat r.length) (Int32.ofNat 0) (Int32.ofNat 0) (Int64.ofNat 0) (Int32.ofNat 0) t = cf_93_88 N X vx (Int32.ofNat r.length) (Int32.ofNat (mxL (r.map pz))) l0 (Int64.ofNat (r.map pz).sum) t := by
      refine lp (fun F i (c : Nat × Int32 × Nat) => cf_93_L13 N X F 0 vx (Int32.ofNat r.length) (Int32.ofNat c.1) c.2.1 (Int64.ofNat c.2.2) (Int32.ofNat i) t) r.length (fun i c => c.1 = mxL ((r.take i).map pz) ∧ lst0 c.2.1 ((r.take i).any fun z => decide (z < 0)) ∧ c.2.2 = ((r.take i).map pz).sum) (fun R => ∃ l0, lst0 l0 (r.any fun z => decide (z < 0)) ∧ R = cf_93_88 N X vx (Int32.ofNat r.length) (Int32.ofNat (mxL (r.map pz))) l0 (Int64.ofNat (r.map pz).sum) t) ?_ ?_ r.length 0 N (0, Int32.ofNat 0, 0) (Nat.zero_add _) (by omega) ⟨rfl, ⟨⟨fun q => absurd q (show ¬ Int32.ofNat 0 < 0 by decide), fun q => (by cases q)⟩, fun _ => rfl⟩, rfl⟩
      · intro F i c hi hP _
        left
        obtain ⟨g0, l0, a0⟩ := c
        obtain ⟨P1, P2, P3⟩ := hP
        have P1 : g0 = _ := P1
        have P3 : a0 = _ := P3
        have n1 : ¬ r.length ≤ i := by omega
        have ia := c_intAt (N := N) (X := X) hh hrv hi
        have hb := hsb i
        rw [← P1, ← P3] at hb
        have e1 := mx_s (g := g0) (z := r[i]) hb.2
        have e2 := pz_64 (z := r[i])
        refine ⟨(Nat.max g0 (pz r[i]), if r[i] < l0 then r[i] else l0, a0 + pz r[i]), ⟨?_, ?_, ?_⟩, ?_⟩
        · show Nat.max g0 (pz r[i]) = _
          rw [take_map_s hi, mxa, P1]
        · rw [take_any hi]
          exact lst0_s P2
        · show a0 + pz r[i] = _
          rw [take_sum_s hi, P3]
        · show cf_93_34 N X (cf_93_L13 N X F) vx (Int32.ofNat r.length) (Int32.ofNat g0) l0 (Int64.ofNat a0) (Int32.ofNat i) t = cf_93_L13 N X F 0 vx (Int32.ofNat r.length) (Int32.ofNat (Nat.max g0 (pz r[i]))) (if r[i] < l0 then r[i] else l0) (Int64.ofNat (a0 + pz r[i])) (Int32.ofNat (i + 1)) t
          have E : cf_93_34 N X (cf_93_L13 N X F) vx (Int32.ofNat r.length) (Int32.ofNat g0) l0 (Int64.ofNat a0) (Int32.ofNat i) t = cf_93_50 N X (cf_93_L13 N X F) vx (Int32.ofNat r.length) (Int32.ofNat g0) l0 (Int64.ofNat a0) (Int32.ofNat i) r[i] t := by
            unfold cf_93_34 cf_93_40
            simp (disch := omega) only [ev_S, ev_C, ↓reduceIte, Nat.reduceEqDiff, Nat.reduceLeDiff, Nat.reduceAdd, Nat.reduceMul, Nat.reduceSub, reduceCtorEq, l32_0, l32_1, l32_2, l32_3, l32_4, l32_5, l32_6, l32_7, l32_8, l32_9, l32_10, l32_11, l32_12, l32_13, l32_14, l32_15, l32_16, l32_17, l32_18, l32_19, l32_20, l32_21, l32_22, l32_23, l32_24, l32_25, l32_26, l32_27, l32_28, l32_29, l32_33, l32_40, l32_41, l32_44, l32_45, l32_59, l32_61, l32_91, l32_93, l32_123, l32_125, n1, ia]
          rw [E]
          unfold cf_93_50
          rw [e1, e2, ← Int64.ofNat_add, show Int32.ofNat i + 1 = Int32.ofNat (i + 1) from i32al]
      · intro F c hP
        obtain ⟨g0, l0, a0⟩ := c
        obtain ⟨P1, P2, P3⟩ := hP
        rw [List.take_length] at P1 P2 P3
        have P1 : g0 = _ := P1
        have P3 : a0 = _ := P3
        refine ⟨l0, P2, ?_⟩
        rw [← P1, ← P3]
        show cf_93_34 N X (cf_93_L13 N X F) vx (Int32.ofNat r.length) (Int32.ofNat g0) l0 (Int64.ofNat a0) (Int32.ofNat r.length) t = _
        unfold cf_93_34
        simp (disch := omega) only [ev_S, ev_C, ↓reduceIte, Nat.reduceEqDiff, Nat.reduceLeDiff, Nat.reduceAdd, Nat.reduceMul, Nat.reduceSub, reduceCtorEq, l32_0, l32_1, l32_2, l32_3, l32_4, l32_5, l32_6, l32_7, l32_8, l32_9, l32_10, l32_11, l32_12, l32_13, l32_14, l32_15, l32_16, l32_17, l32_18, l32_19, l32_20, l32_21, l32_22, l32_23, l32_24, l32_25, l32_26, l32_27, l32_28, l32_29, l32_33, l32_40, l32_41, l32_44, l32_45, l32_59, l32_61, l32_91, l32_93, l32_123, l32_125]
    obtain ⟨l0, hl0, E2⟩ := E2
    rw [E1, E2]
    have hb := hsb r.length
    rw [List.take_length] at hb
    have hlg : (lg_cmp (Int64.ofNat (r.map pz).sum) 200 ≤ Int32.ofNat 0) = ((r.map pz).sum ≤ 200) := lg_le (b := 200) (by omega) (by omega)
    have hmx : 64 < mxL (r.map pz) ↔ (r.any fun z => decide (64 < pz z)) = true := by
      rw [← Nat.not_le, mxL_le, List.any_eq_true]
      constructor
      · intro h
        refine Classical.byContradiction (fun hc => h (fun y hy => ?_))
        obtain ⟨z, hz, rfl⟩ := List.mem_map.mp hy
        exact Nat.not_lt.mp (fun q => hc ⟨z, hz, decide_eq_true q⟩)
      · rintro ⟨z, hz, h⟩ hc
        have := hc (pz z) (List.mem_map.mpr ⟨z, hz, rfl⟩)
        have := decide_eq_true_iff.mp h
        omega
    unfold ansW
    have b2 := T (Int32.ofNat 2)
    by_cases c : 20 < r.length ∨ (r.any fun z => decide (64 < pz z)) = true ∨ 200 < (r.map pz).sum
    · rw [if_pos c]
      refine ⟨t, _, ?_, cE.tr hh⟩
      rw [← hmx] at c
      have hb2 := hb.2
      generalize mxL (r.map pz) = M at *
      generalize (r.map pz).sum = S at *
      by_cases d : 20 < r.length
      · unfold cf_93_88 cf_93_110 cf_93_114
        simp (disch := omega) only [ev_S, ev_C, ↓reduceIte, Nat.reduceEqDiff, Nat.reduceLeDiff, Nat.reduceAdd, Nat.reduceMul, Nat.reduceSub, reduceCtorEq, l32_0, l32_1, l32_2, l32_3, l32_4, l32_5, l32_6, l32_7, l32_8, l32_9, l32_10, l32_11, l32_12, l32_13, l32_14, l32_15, l32_16, l32_17, l32_18, l32_19, l32_20, l32_21, l32_22, l32_23, l32_24, l32_25, l32_26, l32_27, l32_28, l32_29, l32_33, l32_40, l32_41, l32_44, l32_45, l32_59, l32_61, l32_91, l32_93, l32_123, l32_125, d, b2]
      · by_cases e : 64 < M
        · unfold cf_93_88 cf_93_94 cf_93_110 cf_93_114
          simp (disch := omega) only [ev_S, ev_C, ↓reduceIte, Nat.reduceEqDiff, Nat.reduceLeDiff, Nat.reduceAdd, Nat.reduceMul, Nat.reduceSub, reduceCtorEq, l32_0, l32_1, l32_2, l32_3, l32_4, l32_5, l32_6, l32_7, l32_8, l32_9, l32_10, l32_11, l32_12, l32_13, l32_14, l32_15, l32_16, l32_17, l32_18, l32_19, l32_20, l32_21, l32_22, l32_23, l32_24, l32_25, l32_26, l32_27, l32_28, l32_29, l32_33, l32_40, l32_41, l32_44, l32_45, l32_59, l32_61, l32_91, l32_93, l32_123, l32_125, d, e, b2, l32_64]
        · have g : ¬ S ≤ 200 := by omega
          unfold cf_93_88 cf_93_94 cf_93_101 cf_93_110 cf_93_114
          simp (disch := omega) only [ev_S, ev_C, ↓reduceIte, Nat.reduceEqDiff, Nat.reduceLeDiff, Nat.reduceAdd, Nat.reduceMul, Nat.reduceSub, reduceCtorEq, l32_0, l32_1, l32_2, l32_3, l32_4, l32_5, l32_6, l32_7, l32_8, l32_9, l32_10, l32_11, l32_12, l32_13, l32_14, l32_15, l32_16, l32_17, l32_18, l32_19, l32_20, l32_21, l32_22, l32_23, l32_24, l32_25, l32_26, l32_27, l32_28, l32_29, l32_33, l32_40, l32_41, l32_44, l32_45, l32_59, l32_61, l32_91, l32_93, l32_123, l32_125, d, e, hlg, g, b2, l32_64]
    · rw [if_neg c]
      have hr20 : r.length ≤ 20 := Nat.not_lt.mp (fun z => c (Or.inl z))
      have hs200 : (r.map pz).sum ≤ 200 := Nat.not_lt.mp (fun z => c (Or.inr (Or.inr z)))
      have hM : ¬ 64 < mxL (r.map pz) := fun z => c (Or.inr (Or.inl (hmx.mp z)))
      have hp64 : ∀ z ∈ r, pz z ≤ 64 := fun z hz => Nat.not_lt.mp (fun y => c (Or.inr (Or.inl (List.any_eq_true.mpr ⟨z, hz, decide_eq_true y⟩))))
      have E3 : cf_93_88 N X vx (Int32.ofNat r.length) (Int32.ofNat (mxL (r.map pz))) l0 (Int64.ofNat (r.map pz).sum) t = cf_93_115 N X vx (Int32.ofNat r.length) l0 t := by
        have hb2 := hb.2
        have d : ¬ 20 < r.length := by omega
        generalize mxL (r.map pz) = M at *
        generalize (r.map pz).sum = S at *
        unfold cf_93_88 cf_93_94 cf_93_101
        simp (disch := omega) only [ev_S, ev_C, ↓reduceIte, Nat.reduceEqDiff, Nat.reduceLeDiff, Nat.reduceAdd, Nat.reduceMul, Nat.reduceSub, reduceCtorEq, l32_0, l32_1, l32_2, l32_3, l32_4, l32_5, l32_6, l32_7, l32_8, l32_9, l32_10, l32_11, l32_12, l32_13, l32_14, l32_15, l32_16, l32_17, l32_18, l32_19, l32_20, l32_21, l32_22, l32_23, l32_24, l32_25, l32_26, l32_27, l32_28, l32_29, l32_33, l32_40, l32_41, l32_44, l32_45, l32_59, l32_61, l32_91, l32_93, l32_123, l32_125, d, hM, hlg, hs200, l32_64]
      rw [E3]
      unfold cf_93_115
      by_cases d : l0 < 0
      · rw [if_pos (hl0.1.mp d), if_neg (Int32.not_le.mpr d)]
        refine ⟨t, _, ?_, cE.tr hh⟩
        have b1 := T (Int32.ofNat 1)
        unfold cf_93_120 cf_93_124
        simp (disch := omega) only [ev_S, ev_C, ↓reduceIte, Nat.reduceEqDiff, Nat.reduceLeDiff, Nat.reduceAdd, Nat.reduceMul, Nat.reduceSub, reduceCtorEq, l32_0, l32_1, l32_2, l32_3, l32_4, l32_5, l32_6, l32_7, l32_8, l32_9, l32_10, l32_11, l32_12, l32_13, l32_14, l32_15, l32_16, l32_17, l32_18, l32_19, l32_20, l32_21, l32_22, l32_23, l32_24, l32_25, l32_26, l32_27, l32_28, l32_29, l32_33, l32_40, l32_41, l32_44, l32_45, l32_59, l32_61, l32_91, l32_93, l32_123, l32_125, b1]
      · have hany : ¬ (r.any fun z => decide (z < 0)) = true := fun z => d (hl0.1.mpr z)
        rw [if_neg hany, if_pos (Int32.not_lt.mp d)]
        have hnn : ∀ z ∈ r, ¬ z < 0 := fun z hz y => hany (List.any_eq_true.mpr ⟨z, hz, decide_eq_true y⟩)
        have E4 : cf_93_125 N X vx (Int32.ofNat r.length) t = cf_93_L4 N X N 0 vx (Int32.ofNat r.length) (Int32.ofNat w) (Int32.ofNat 0) t := by
          unfold cf_93_125 cf_93_132
          simp (disch := omega) only [ev_S, ev_C, ↓reduceIte, Nat.reduceEqDiff, Nat.reduceLeDiff, Nat.reduceAdd, Nat.reduceMul, Nat.reduceSub, reduceCtorEq, l32_0, l32_1, l32_2, l32_3, l32_4, l32_5, l32_6, l32_7, l32_8, l32_9, l32_10, l32_11, l32_12, l32_13, l32_14, l32_15, l32_16, l32_17, l32_18, l32_19, l32_20, l32_21, l32_22, l32_23, l32_24, l32_25, l32_26, l32_27, l32_28, l32_29, l32_33, l32_40, l32_41, l32_44, l32_45, l32_59, l32_61, l32_91, l32_93, l32_123, l32_125, ga]
        rw [E4]
        have sml : ∀ i, ((r.take i).map pz).sum ≤ 200 := fun i => by
          have : ((r.take i).map pz).sum ≤ (r.map pz).sum := by
            conv => rhs; rw [← List.take_append_drop i r, List.map_append, List.sum_append]
            omega
          omega
        refine lp (fun F i (t' : cS) => cf_93_L4 N X F 0 vx (Int32.ofNat r.length) (Int32.ofNat w) (Int32.ofNat i) t') r.length (fun i t' => cG t t' u (u + (i + ((r.take i).map pz).sum)) w (((r.take i).map fun z => zer (pz z)).map nR)) (fun R => ∃ t' v, R = some (t', .inl (some (.long v))) ∧ cE t t' u v (ansM 2 ((r.map fun z => zer (pz z)).map nR))) ?_ ?_ r.length 0 N t (Nat.zero_add _) (by omega) (cG.nil hh)
        · intro F i t1 hi G _
          left
          have hli : ((r.take i).map fun z => zer (pz z)).length = i := len_take_map (by omega)
          have hll : (((r.take i).map fun z => zer (pz z)).map nR).length = i := by rw [List.length_map, hli]
          have hsi := sml i
          have n1 : ¬ r.length ≤ i := by omega
          have ia := c_intAt (N := N) (X := X) G.c (UP G) hi
          have hmem := List.getElem_mem hi
          obtain ⟨p, hp, ep⟩ := i32nn (hnn _ hmem)
          have hp6 := hp64 _ hmem
          rw [ep, pz_o hp] at hp6
          rw [ep] at ia
          obtain ⟨t2, v, r1, r2, r3⟩ := c_zeros (N := N) (X := X) (q := p) hN G.c hp6 (by rw [hll]; omega) (by omega)
          obtain ⟨t3, p1, p2⟩ := cG.addRow (N := N) (X := X) G r2 r3 (by rw [hll]; omega)
          refine ⟨t3, ?_, ?_⟩
          · rw [take_sum_s hi, take_map_s hi, List.map_append, ep, pz_o hp]
            have e : u + (i + 1 + (((r.take i).map pz).sum + p)) = u + (i + ((r.take i).map pz).sum) + 1 + p := by omega
            rw [e]
            exact p2
          · show cf_93_137 N X (cf_93_L4 N X F) vx (Int32.ofNat r.length) (Int32.ofNat w) (Int32.ofNat i) t1 = _
            unfold cf_93_137 cf_93_143 cf_93_158 cf_93_161 cf_93_164
            simp (disch := omega) only [ev_S, ev_C, ↓reduceIte, Nat.reduceEqDiff, Nat.reduceLeDiff, Nat.reduceAdd, Nat.reduceMul, Nat.reduceSub, reduceCtorEq, l32_0, l32_1, l32_2, l32_3, l32_4, l32_5, l32_6, l32_7, l32_8, l32_9, l32_10, l32_11, l32_12, l32_13, l32_14, l32_15, l32_16, l32_17, l32_18, l32_19, l32_20, l32_21, l32_22, l32_23, l32_24, l32_25, l32_26, l32_27, l32_28, l32_29, l32_33, l32_40, l32_41, l32_44, l32_45, l32_59, l32_61, l32_91, l32_93, l32_123, l32_125, n1, ia, r1, p1]
        · intro F t1 G
          rw [List.take_length] at G
          have hlp : (r.map fun z => zer (pz z)).length = r.length := List.length_map _
          have hsl : ((r.map fun z => zer (pz z)).map List.length).sum = (r.map pz).sum := by
            rw [List.map_map, show (List.length ∘ fun z => zer (pz z)) = pz from funext (fun z => zer_len)]
          obtain ⟨t2, v, b1, b2⟩ := cG.bT (N := N) (X := X) hN G (fun r' hr' => by
            obtain ⟨z, hz, rfl⟩ := List.mem_map.mp hr'
            rw [zer_len]
            exact hp64 z hz) (by rw [hlp, hsl]; omega) (by rw [hlp, hsl]; omega) (by omega) (by omega)
          refine ⟨t2, v, ?_, b2⟩
          show cf_93_137 N X (cf_93_L4 N X F) vx (Int32.ofNat r.length) (Int32.ofNat w) (Int32.ofNat r.length) t1 = _
          unfold cf_93_137 cf_93_170 cf_93_180
          simp (disch := omega) only [ev_S, ev_C, ↓reduceIte, Nat.reduceEqDiff, Nat.reduceLeDiff, Nat.reduceAdd, Nat.reduceMul, Nat.reduceSub, reduceCtorEq, l32_0, l32_1, l32_2, l32_3, l32_4, l32_5, l32_6, l32_7, l32_8, l32_9, l32_10, l32_11, l32_12, l32_13, l32_14, l32_15, l32_16, l32_17, l32_18, l32_19, l32_20, l32_21, l32_22, l32_23, l32_24, l32_25, l32_26, l32_27, l32_28, l32_29, l32_33, l32_40, l32_41, l32_44, l32_45, l32_59, l32_61, l32_91, l32_93, l32_123, l32_125, b1]
  · rw [if_neg c1]
    refine ⟨t, _, ?_, cE.tr hh⟩
    have b1 := T (Int32.ofNat 3)
    generalize kn x = kx' at *
    repeat ((first | unfold cf_93 | unfold cf_93_0 | unfold cf_93_4 | unfold cf_93_8 | unfold cf_93_12 | unfold cf_93_13 | unfold cf_93_21 | unfold cf_93_34 | unfold cf_93_40 | unfold cf_93_50 | unfold cf_93_88 | unfold cf_93_94 | unfold cf_93_101 | unfold cf_93_110 | unfold cf_93_114 | unfold cf_93_115 | unfold cf_93_120 | unfold cf_93_124 | unfold cf_93_125 | unfold cf_93_132 | unfold cf_93_137 | unfold cf_93_143 | unfold cf_93_158 | unfold cf_93_161 | unfold cf_93_164 | unfold cf_93_170 | unfold cf_93_180); try simp (disch := omega) only [ev_S, ev_C, ↓reduceIte, Nat.reduceEqDiff, Nat.reduceLeDiff, Nat.reduceAdd, Nat.reduceMul, Nat.reduceSub, reduceCtorEq, l32_0, l32_1, l32_2, l32_3, l32_4, l32_20, l32_64, l32_200, kx, c1, b1])
end RWC
