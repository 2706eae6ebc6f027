/-! ===== PURE: run (21): index, the class ===== -/
section IDC
variable {N : Nat} {X : Nat → Option zz_C} {t t' : cS} {u u' w : Nat} {x y : Nod} {xs : List Nod} {vx vy v : Int64}
theorem cN.z (h : cN (cel t) u v x) (h0 : kn x = 0) : v = tg 0 (ivN x) := by
  have z := cN_iff.mp h
  rw [kn0 h0] at z
  exact z
theorem cN.r (h : cN (cel t) u v x) (h1 : kn x = 1) : cV (cel t) u v (vR (rvN x)) := by
  have z := cN_iff.mp h
  rw [kn1 h1] at z
  exact z
theorem cE.in (hh : cHp t u w) (h : cN (cel t) u v x) (hw : wfN x) (hd : x.1 ≤ 4) : cE t t u v (.inr x) := ⟨u, w, hh, hfw.rf, Nat.le_refl _, fun _ _ => rfl, h, by omega, hw, hd⟩
theorem cG.c (H : cG t t' u u' w xs) : cHp t' u' (w + xs.length) := H.1
theorem c_idx (hN : 170000 ≤ N) (hh : cHp t u w) (hx : cN (cel t) u vx x) (hy : cN (cel t) u vy y) (wx : wfN x) (dx : x.1 ≤ 4) (wy : wfN y) (hu : u ≤ 162000) (hw : w ≤ 1000) : ∃ t' v, cf_223 N X vx vy t = some (t', .inl (some (.long v))) ∧ cE t t' u v (ansI x y) := by
  have z1 := c_size (N := N) (X := X) hh hx
  have z1 : cf_128 N X vx t = some (t, .inl (some (.int (Int32.ofNat (szN x))))) := z1
  have kx := c_kn (N := N) (X := X) hx
  have ky := c_kn (N := N) (X := X) hy
  have lx := kn_le (x := x)
  have ly := kn_le (x := y)
  have hpl : (pts x).length = szN x := pts_len
  have s64 := wf64 wx
  have T := fun k => c_rf (N := N) (X := X) (t := t) (k := k)
  unfold ansI
  by_cases c1 : kn x = 0 ∨ 1 < kn y
  · rw [if_pos c1]
    refine ⟨t, _, ?_, cE.tr hh⟩
    have b1 := T (Int32.ofNat 3)
    generalize kn x = kx' at *
    generalize kn y = ky' at *
    rcases Nat.eq_zero_or_pos kx' with c2 | c2
    · repeat ((first | unfold cf_223 | unfold cf_223_0 | unfold cf_223_8 | unfold cf_223_14 | unfold cf_223_17 | unfold cf_223_21 | unfold cf_223_25 | unfold cf_223_29 | unfold cf_223_30 | unfold cf_223_34 | unfold cf_223_37 | unfold cf_223_41 | unfold cf_223_48 | unfold cf_223_55 | unfold cf_223_59 | unfold cf_223_62 | unfold cf_223_72 | unfold cf_223_73 | unfold cf_223_80 | unfold cf_223_90 | unfold cf_223_95 | unfold cf_223_102 | unfold cf_223_112 | unfold cf_223_119 | unfold cf_223_126 | unfold cf_223_130 | unfold cf_223_131 | unfold cf_223_145 | unfold cf_223_148 | unfold cf_223_154 | unfold cf_223_162 | unfold cf_223_167); try simp (disch := omega) only [ev_S, ev_C, ↓reduceIte, Nat.reduceEqDiff, Nat.reduceLeDiff, Nat.reduceAdd, Nat.reduceMul, Nat.reduceSub, reduceCtorEq, l32_0, l32_1, l32_2, l32_3, l32_4, l32_5, z1, kx, ky, c2, b1])
    · have c2' : ¬ kx' = 0 := by omega
      have c3' : ¬ ky' ≤ 1 := by omega
      repeat ((first | unfold cf_223 | unfold cf_223_0 | unfold cf_223_8 | unfold cf_223_14 | unfold cf_223_17 | unfold cf_223_21 | unfold cf_223_25 | unfold cf_223_29 | unfold cf_223_30 | unfold cf_223_34 | unfold cf_223_37 | unfold cf_223_41 | unfold cf_223_48 | unfold cf_223_55 | unfold cf_223_59 | unfold cf_223_62 | unfold cf_223_72 | unfold cf_223_73 | unfold cf_223_80 | unfold cf_223_90 | unfold cf_223_95 | unfold cf_223_102 | unfold cf_223_112 | unfold cf_223_119 | unfold cf_223_126 | unfold cf_223_130 | unfold cf_223_131 | unfold cf_223_145 | unfold cf_223_148 | unfold cf_223_154 | unfold cf_223_162 | unfold cf_223_167); try simp (disch := omega) only [ev_S, ev_C, ↓reduceIte, Nat.reduceEqDiff, Nat.reduceLeDiff, Nat.reduceAdd, Nat.reduceMul, Nat.reduceSub, reduceCtorEq, l32_0, l32_1, l32_2, l32_3, l32_4, l32_5, z1, kx, ky, c2', c3', b1])
  · rw [if_neg c1]
    have c2 : ¬ kn x = 0 := fun z => c1 (Or.inl z)
    have c3 : kn y ≤ 1 := by omega
    by_cases c4 : kn y = 0
    · rw [if_pos c4]
      have ev := hy.z c4
      have lo := c_lowOf (N := N) (X := X) (t := t) (k := 0) (a := ivN y)
      rw [← ev] at lo
      have E1 : cf_223 N X vx vy t = cf_223_41 N X vx (Int32.ofNat (szN x)) (ivN y) t := by
        rw [c4] at ky
        generalize kn x = kx' at *
        unfold cf_223 cf_223_0 cf_223_8 cf_223_14 cf_223_17 cf_223_21 cf_223_30 cf_223_34 cf_223_37
        simp (disch := omega) only [ev_S, ev_C, ↓reduceIte, Nat.reduceEqDiff, Nat.reduceLeDiff, Nat.reduceAdd, Nat.reduceMul, Nat.reduceSub, reduceCtorEq, l32_0, l32_1, l32_2, l32_3, l32_4, l32_5, l32_6, l32_7, l32_8, l32_9, l32_10, l32_11, l32_12, l32_13, l32_14, l32_15, l32_16, l32_17, l32_18, l32_19, l32_20, l32_21, l32_22, l32_23, l32_24, l32_25, l32_26, l32_27, l32_28, l32_29, l32_33, l32_40, l32_41, l32_44, l32_45, l32_59, l32_61, l32_91, l32_93, l32_123, l32_125, z1, kx, ky, c2, lo]
      rw [E1]
      have b1 := T (Int32.ofNat 5)
      by_cases z0 : ivN y < 0
      · rw [inr_n z0]
        refine ⟨t, _, ?_, cE.tr hh⟩
        unfold cf_223_41
        rw [if_pos z0]
        unfold cf_223_55 cf_223_59 cf_223_72
        simp (disch := omega) only [ev_S, ev_C, ↓reduceIte, Nat.reduceEqDiff, Nat.reduceLeDiff, Nat.reduceAdd, Nat.reduceMul, Nat.reduceSub, reduceCtorEq, l32_0, l32_1, l32_2, l32_3, l32_4, l32_5, l32_6, l32_7, l32_8, l32_9, l32_10, l32_11, l32_12, l32_13, l32_14, l32_15, l32_16, l32_17, l32_18, l32_19, l32_20, l32_21, l32_22, l32_23, l32_24, l32_25, l32_26, l32_27, l32_28, l32_29, l32_33, l32_40, l32_41, l32_44, l32_45, l32_59, l32_61, l32_91, l32_93, l32_123, l32_125, b1]
      · obtain ⟨p, hp, ep⟩ := i32nn z0
        rw [ep, inr_o hp]
        by_cases zp : p < szN x
        · rw [decide_eq_true zp, if_pos rfl, pkd_o (by omega) hp]
          obtain ⟨v', d1, d2⟩ := c_part (N := N) (X := X) hh hx (i := p) (by omega)
          refine ⟨t, v', ?_, cE.in hh d2 (wf_pts wx _ (List.getElem_mem _)) (Nat.le_trans (pts_lv _ (List.getElem_mem _)) dx)⟩
          unfold cf_223_41 cf_223_48 cf_223_62 cf_223_72
          simp (disch := omega) only [ev_S, ev_C, ↓reduceIte, Nat.reduceEqDiff, Nat.reduceLeDiff, Nat.reduceAdd, Nat.reduceMul, Nat.reduceSub, reduceCtorEq, l32_0, l32_1, l32_2, l32_3, l32_4, l32_5, l32_6, l32_7, l32_8, l32_9, l32_10, l32_11, l32_12, l32_13, l32_14, l32_15, l32_16, l32_17, l32_18, l32_19, l32_20, l32_21, l32_22, l32_23, l32_24, l32_25, l32_26, l32_27, l32_28, l32_29, l32_33, l32_40, l32_41, l32_44, l32_45, l32_59, l32_61, l32_91, l32_93, l32_123, l32_125, zp, d1]
        · rw [decide_eq_false zp]
          refine ⟨t, _, ?_, cE.tr hh⟩
          unfold cf_223_41 cf_223_48 cf_223_55 cf_223_59 cf_223_72
          simp (disch := omega) only [ev_S, ev_C, ↓reduceIte, Nat.reduceEqDiff, Nat.reduceLeDiff, Nat.reduceAdd, Nat.reduceMul, Nat.reduceSub, reduceCtorEq, l32_0, l32_1, l32_2, l32_3, l32_4, l32_5, l32_6, l32_7, l32_8, l32_9, l32_10, l32_11, l32_12, l32_13, l32_14, l32_15, l32_16, l32_17, l32_18, l32_19, l32_20, l32_21, l32_22, l32_23, l32_24, l32_25, l32_26, l32_27, l32_28, l32_29, l32_33, l32_40, l32_41, l32_44, l32_45, l32_59, l32_61, l32_91, l32_93, l32_123, l32_125, zp, b1]
    · rw [if_neg c4]
      have c5 : kn y = 1 := by omega
      have hrv := hy.r c5
      have zy := c_size (N := N) (X := X) hh hy
      have zy : cf_128 N X vy t = some (t, .inl (some (.int (Int32.ofNat (szN y))))) := zy
      rw [kn1_sz c5] at zy
      have hr64 : (rvN y).length ≤ 64 := by rw [← kn1_sz c5]; exact wf64 wy
      have ga := c_gathered (N := N) (X := X) hh
      generalize rvN y = r at *
      have E1 : cf_223 N X vx vy t = cf_223_L7 N X N 0 vx vy (Int32.ofNat (szN x)) (Int32.ofNat w) (Int32.ofNat r.length) (Int32.ofNat 0) t := by
        rw [c5] at ky
        generalize kn x = kx' at *
        unfold cf_223 cf_223_0 cf_223_8 cf_223_14 cf_223_17 cf_223_21 cf_223_30 cf_223_34 cf_223_73 cf_223_80 cf_223_90
        simp (disch := omega) only [ev_S, ev_C, ↓reduceIte, Nat.reduceEqDiff, Nat.reduceLeDiff, Nat.reduceAdd, Nat.reduceMul, Nat.reduceSub, reduceCtorEq, l32_0, l32_1, l32_2, l32_3, l32_4, l32_5, l32_6, l32_7, l32_8, l32_9, l32_10, l32_11, l32_12, l32_13, l32_14, l32_15, l32_16, l32_17, l32_18, l32_19, l32_20, l32_21, l32_22, l32_23, l32_24, l32_25, l32_26, l32_27, l32_28, l32_29, l32_33, l32_40, l32_41, l32_44, l32_45, l32_59, l32_61, l32_91, l32_93, l32_123, l32_125, z1, kx, ky, c2, zy, ga]
      rw [E1]
      refine lp (fun F i (t' : cS) => cf_223_L7 N X F 0 vx vy (Int32.ofNat (szN x)) (Int32.ofNat w) (Int32.ofNat r.length) (Int32.ofNat i) t') r.length (fun i t' => cG t t' u u w ((r.take i).map (pkd x)) ∧ ∀ z ∈ r.take i, inr (szN x) z = true) (fun R => ∃ t' v, R = some (t', .inl (some (.long v))) ∧ cE t t' u v (if r.all (inr (szN x)) = true then ansM (kn x) (r.map (pkd x)) else .inl 5)) (by
          intro F i t' hi hP _
          obtain ⟨G, hin⟩ := hP
          have hll : ((r.take i).map (pkd x)).length = i := by rw [List.length_map, List.length_take]; omega
          have n1 : ¬ r.length ≤ i := by omega
          have G1 := G.c
          have hry : cV (cel t') u vy (vR r) := by
            have z := G.up (x := nR r) (v := vy) (cN_iff.mpr hrv)
            exact cN_iff.mp z
          have ia := c_intAt (N := N) (X := X) G1 hry hi
          have b1 := c_rf (N := N) (X := X) (t := t') (k := Int32.ofNat 5)
          have st : cf_223_L7 N X (F + 1) 0 vx vy (Int32.ofNat (szN x)) (Int32.ofNat w) (Int32.ofNat r.length) (Int32.ofNat i) t' = cf_223_112 N X (cf_223_L7 N X F) vx vy (Int32.ofNat (szN x)) (Int32.ofNat w) (Int32.ofNat r.length) (Int32.ofNat i) r[i] t' := by
            show cf_223_95 N X (cf_223_L7 N X F) vx vy (Int32.ofNat (szN x)) (Int32.ofNat w) (Int32.ofNat r.length) (Int32.ofNat i) t' = _
            unfold cf_223_95 cf_223_102
            simp (disch := omega) only [ev_S, ev_C, ↓reduceIte, Nat.reduceEqDiff, Nat.reduceLeDiff, Nat.reduceAdd, Nat.reduceMul, Nat.reduceSub, reduceCtorEq, l32_0, l32_1, l32_2, l32_3, l32_4, l32_5, l32_6, l32_7, l32_8, l32_9, l32_10, l32_11, l32_12, l32_13, l32_14, l32_15, l32_16, l32_17, l32_18, l32_19, l32_20, l32_21, l32_22, l32_23, l32_24, l32_25, l32_26, l32_27, l32_28, l32_29, l32_33, l32_40, l32_41, l32_44, l32_45, l32_59, l32_61, l32_91, l32_93, l32_123, l32_125, n1, ia]
          show (∃ a' : cS, _ ∧ cf_223_L7 N X (F + 1) 0 _ _ _ _ _ _ t' = _) ∨ ∃ t'' v, cf_223_L7 N X (F + 1) 0 _ _ _ _ _ _ t' = _ ∧ _
          rw [st]
          by_cases z0 : r[i] < 0
          · right
            rw [all_f hi (inr_n z0)]
            refine ⟨t', _, ?_, cG.tr G (by omega)⟩
            unfold cf_223_112
            rw [if_pos z0]
            unfold cf_223_126 cf_223_130
            simp (disch := omega) only [ev_S, ev_C, ↓reduceIte, Nat.reduceEqDiff, Nat.reduceLeDiff, Nat.reduceAdd, Nat.reduceMul, Nat.reduceSub, reduceCtorEq, l32_0, l32_1, l32_2, l32_3, l32_4, l32_5, l32_6, l32_7, l32_8, l32_9, l32_10, l32_11, l32_12, l32_13, l32_14, l32_15, l32_16, l32_17, l32_18, l32_19, l32_20, l32_21, l32_22, l32_23, l32_24, l32_25, l32_26, l32_27, l32_28, l32_29, l32_33, l32_40, l32_41, l32_44, l32_45, l32_59, l32_61, l32_91, l32_93, l32_123, l32_125, b1]
          · obtain ⟨p, hp, ep⟩ := i32nn z0
            have ei : inr (szN x) r[i] = decide (p < szN x) := by rw [ep, inr_o hp]
            by_cases zp : p < szN x
            · left
              obtain ⟨v', d1, d2⟩ := c_part (N := N) (X := X) G1 (G.up hx) (i := p) (by omega)
              obtain ⟨t2, p1, p2⟩ := cG.put (N := N) (X := X) G (by rw [hll]; omega) d2
              refine ⟨t2, ⟨?_, ?_⟩, ?_⟩
              · rw [List.take_succ_eq_append_getElem hi, List.map_append, List.map_cons, List.map_nil, ep, pkd_o (by omega) hp]
                exact p2
              · intro z hz
                rw [List.take_succ_eq_append_getElem hi] at hz
                rcases List.mem_append.mp hz with hz | hz
                · exact hin z hz
                · rw [List.mem_singleton.mp hz, ei, decide_eq_true zp]
              · rw [ep]
                unfold cf_223_112 cf_223_119 cf_223_131 cf_223_145 cf_223_148
                simp (disch := omega) only [ev_S, ev_C, ↓reduceIte, Nat.reduceEqDiff, Nat.reduceLeDiff, Nat.reduceAdd, Nat.reduceMul, Nat.reduceSub, reduceCtorEq, l32_0, l32_1, l32_2, l32_3, l32_4, l32_5, l32_6, l32_7, l32_8, l32_9, l32_10, l32_11, l32_12, l32_13, l32_14, l32_15, l32_16, l32_17, l32_18, l32_19, l32_20, l32_21, l32_22, l32_23, l32_24, l32_25, l32_26, l32_27, l32_28, l32_29, l32_33, l32_40, l32_41, l32_44, l32_45, l32_59, l32_61, l32_91, l32_93, l32_123, l32_125, zp, d1, p1]
            · right
              rw [all_f hi (by rw [ei, decide_eq_false zp]), ep]
              refine ⟨t', _, ?_, cG.tr G (by omega)⟩
              unfold cf_223_112 cf_223_119 cf_223_126 cf_223_130
              simp (disch := omega) only [ev_S, ev_C, ↓reduceIte, Nat.reduceEqDiff, Nat.reduceLeDiff, Nat.reduceAdd, Nat.reduceMul, Nat.reduceSub, reduceCtorEq, l32_0, l32_1, l32_2, l32_3, l32_4, l32_5, l32_6, l32_7, l32_8, l32_9, l32_10, l32_11, l32_12, l32_13, l32_14, l32_15, l32_16, l32_17, l32_18, l32_19, l32_20, l32_21, l32_22, l32_23, l32_24, l32_25, l32_26, l32_27, l32_28, l32_29, l32_33, l32_40, l32_41, l32_44, l32_45, l32_59, l32_61, l32_91, l32_93, l32_123, l32_125, zp, b1]) (by
          intro F t' hP
          obtain ⟨G, hin⟩ := hP
          rw [List.take_length] at G hin
          rw [if_pos (List.all_eq_true.mpr hin)]
          have hmem : ∀ y ∈ r.map (pkd x), y ∈ pts x := fun y hy => by
            obtain ⟨z, hz, rfl⟩ := List.mem_map.mp hy
            exact pkd_mem (hin z hz)
          have kx' := c_kn (N := N) (X := X) (G.up hx)
          obtain ⟨t2, v, b1, b2⟩ := cG.build (N := N) (X := X) (k := kn x) hN G (pts_ok c2 hmem) (fun y hy => wf_pts wx y (hmem y hy)) (fun y hy => Nat.le_trans (pts_lv y (hmem y hy)) dx) (by rw [List.length_map]; omega) (by omega) (by omega) (by omega) (by omega)
          refine ⟨t2, v, ?_, b2⟩
          show cf_223_95 N X (cf_223_L7 N X F) vx vy (Int32.ofNat (szN x)) (Int32.ofNat w) (Int32.ofNat r.length) (Int32.ofNat r.length) t' = _
          unfold cf_223_95 cf_223_154 cf_223_162 cf_223_167
          simp (disch := omega) only [ev_S, ev_C, ↓reduceIte, Nat.reduceEqDiff, Nat.reduceLeDiff, Nat.reduceAdd, Nat.reduceMul, Nat.reduceSub, reduceCtorEq, l32_0, l32_1, l32_2, l32_3, l32_4, l32_5, l32_6, l32_7, l32_8, l32_9, l32_10, l32_11, l32_12, l32_13, l32_14, l32_15, l32_16, l32_17, l32_18, l32_19, l32_20, l32_21, l32_22, l32_23, l32_24, l32_25, l32_26, l32_27, l32_28, l32_29, l32_33, l32_40, l32_41, l32_44, l32_45, l32_59, l32_61, l32_91, l32_93, l32_123, l32_125, kx', b1]) r.length 0 N t (Nat.zero_add _) (by omega) ⟨cG.nil hh, fun z hz => absurd hz List.not_mem_nil⟩
end IDC
