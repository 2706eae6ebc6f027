/-! ===== PURE: run (45): scan, sort, grade: the class, all ===== -/
section SRD
variable {N : Nat} {X : Nat → Option zz_C} {t t' : cS} {u u' w i b : Nat} {x : Nod} {vx v : Int64} {xs : List Nod} {r : List Int32} {g : Nat → Int32}
theorem cG.c60 (G : cG t t' u u' w xs) (h60 : (kA t 60).1 = 64) : (kA t' 60).1 = 64 := by rw [G.2.1.2.2.2.2.2.2.2.2.2, h60]
theorem grd_mem (hr : r.length ≤ 64) {z : Int32} (h : z ∈ grd r) : ∃ q, q < r.length ∧ z = Int32.ofNat q := by
  unfold grd at h
  obtain ⟨q, hq, rfl⟩ := List.mem_map.mp (srt_mem _ h)
  exact ⟨q, List.mem_range.mp hq, rfl⟩
theorem grd_len : (grd r).length = r.length := by
  unfold grd
  rw [srt_len, List.length_map, List.length_range]
/-- the places in order stay while numbers are gathered -/
theorem cG.put60 (G : cG t t' u u' w xs) (hw : w + xs.length < 61000) (hx : cN (cel t') u' v x) : ∃ t'', cf_123 N X v t' = some (t'', .inl none) ∧ cG t t'' u u' w (xs ++ [x]) ∧ kA t'' 60 = kA t' 60 := by
  obtain ⟨t2, e1, e2⟩ := cG.put (N := N) (X := X) G hw hx
  obtain ⟨t3, f1, f2, f3, f4⟩ := c_put1 (N := N) (X := X) (v := v) G.1 hw
  rw [e1] at f1
  cases f1
  exact ⟨t2, e1, e2, (f3.2.2.2.1 60 (by omega) (by omega) (by omega)).1⟩
theorem cG.j60 (G : cG t t' u u' w xs) : cG t (jA t' 60 g) u u' w xs := ⟨G.1, hfw.tr G.2.1 hfw_60, G.2.2.1, G.2.2.2.1, G.2.2.2.2.1, G.2.2.2.2.2⟩
theorem c_chR (hN : 170000 ≤ N) (hb : b = 12 ∨ b = 13) (hh : cHp t u w) (h : cN (cel t) u v (nR r)) (hr : r.length ≤ 64) (h60 : (kA t 60).1 = 64) (hw : w ≤ 2000) (hu : u ≤ 164000) : ∃ t2 v2, cf_98 N X (wrdV b) v t = some (t2, .inl (some (.long v2))) ∧ cG t t2 u (u + 1 + r.length) w [] ∧ cN (cel t2) (u + 1 + r.length) v2 (nR (wrk b r)) := by
  have zz := c_sizeN (N := N) (X := X) hh h
  have zz : cf_128 N X v t = some (t, .inl (some (.int (Int32.ofNat r.length)))) := zz
  have ga := c_gathered (N := N) (X := X) hh
  obtain ⟨g, s1, s2⟩ := c_srt (N := N) (X := X) hN hh h hr h60
  obtain ⟨t0, ht0⟩ : ∃ t0, t0 = if b = 13 then jA t 60 g else t := ⟨_, rfl⟩
  have G0 : cG t t0 u u w [] := by
    rw [ht0]
    split
    · exact (cG.nil hh).j60
    · exact cG.nil hh
  have E1 : cf_98 N X (wrdV b) v t = cf_98_L2 N X N 0 (wrdV b) v (Int32.ofNat r.length) (Int32.ofNat w) (Int32.ofNat 0) (Int32.ofNat 0) t0 := by
    have E : cf_98 N X (wrdV b) v t = cf_98_17 N X (wrdV b) v (Int32.ofNat r.length) (Int32.ofNat w) t := by
      generalize wrdV b = W
      unfold cf_98 cf_98_0 cf_98_8
      simp (disch := omega) only [ev_S, ev_C, ↓reduceIte, Nat.reduceEqDiff, Nat.reduceLeDiff, Nat.reduceAdd, Nat.reduceMul, Nat.reduceSub, reduceCtorEq, l32_0, l32_1, l32_2, l32_3, l32_4, l32_5, l32_6, l32_7, l32_8, l32_9, l32_10, l32_11, l32_12, l32_13, l32_14, l32_15, l32_16, l32_17, l32_18, l32_19, l32_20, l32_21, l32_22, l32_23, l32_24, l32_25, l32_26, l32_27, l32_28, l32_29, l32_33, l32_40, l32_41, l32_44, l32_45, l32_59, l32_61, l32_91, l32_93, l32_123, l32_125, zz, ga]
    rw [E]
    unfold cf_98_17
    rw [if_pos (wgd (a := 12 + b) (c := 25) (by omega) (by omega)), wrd_ne, ht0]
    rcases hb with rfl | rfl
    · rfl
    · rw [if_neg (by decide), if_pos rfl]
      unfold cf_98_26
      rw [s1]
      rfl
  have hW : ∀ i (hi : i < r.length), (wrk b r)[i]'(by rw [wrk_len]; exact hi) = if b = 12 then (r.take (i + 1)).foldl (· + ·) 0 else r.getD ((grd r)[i]'(by rw [grd_len]; exact hi)).toNatClampNeg 0 := fun i hi => by
    apply Option.some.inj
    rw [← List.getElem?_eq_getElem]
    rcases hb with rfl | rfl
    · rw [if_pos rfl]
      show (scn r)[i]? = _
      unfold scn
      rw [List.getElem?_map, List.getElem?_range hi]
      rfl
    · rw [if_neg (by omega)]
      show (srt id r)[i]? = _
      rw [← grd_map hr, List.getElem?_map, List.getElem?_eq_getElem (by rw [grd_len]; exact hi)]
      rfl
  rw [E1]
  have hwl := wrk_len (b := b) (r := r)
  refine lp (fun F i (c : Int32 × cS) => cf_98_L2 N X F 0 (wrdV b) v (Int32.ofNat r.length) (Int32.ofNat w) c.1 (Int32.ofNat i) c.2) r.length (fun i c => c.1 = (r.take i).foldl (· + ·) 0 ∧ cG t c.2 u u w (((wrk b r).take i).map nZ) ∧ (b = 13 → kA c.2 60 = (64, g))) (fun R => ∃ t2 v2, R = some (t2, .inl (some (.long v2))) ∧ cG t t2 u (u + 1 + r.length) w [] ∧ cN (cel t2) (u + 1 + r.length) v2 (nR (wrk b r))) ?_ ?_ r.length 0 N (Int32.ofNat 0, t0) (Nat.zero_add _) (by omega) ⟨rfl, G0, fun hb => ?_⟩
  · intro F i c hi hP _
    left
    obtain ⟨v0, t1⟩ := c
    obtain ⟨P1, G, P3⟩ := hP
    have P1 : v0 = _ := P1
    have G : cG t t1 u u w (((wrk b r).take i).map nZ) := G
    have hi' : i < (wrk b r).length := by rw [hwl]; exact hi
    have n1 : ¬ r.length ≤ i := by omega
    have hll : (((wrk b r).take i).map nZ).length = i := len_take_map (by omega)
    have hV := cN_iff.mp (G.up h)
    have ia := c_intAt (N := N) (X := X) G.c hV hi
    obtain ⟨t2, p1, p2, p3⟩ := cG.put60 (N := N) (X := X) G (by rw [hll]; omega) (cN_Z (z := (wrk b r)[i]))
    have th := c_thing (N := N) (X := X) (t := t1) (k := Int32.ofNat 0) (a := (wrk b r)[i])
    have p1 : cf_123 N X (tg (Int32.ofNat 0) (wrk b r)[i]) t1 = _ := p1
    refine ⟨(v0 + r[i], t2), ⟨?_, ?_, fun hb => ?_⟩, ?_⟩
    · show v0 + r[i] = _
      rw [scn_s hi, P1]
    · show cG t t2 u u w _
      rw [take_map_s hi']
      exact p2
    · show kA t2 60 = _
      rw [p3]
      exact P3 hb
    · show cf_98_39 N X (cf_98_L2 N X F) (wrdV b) v (Int32.ofNat r.length) (Int32.ofNat w) v0 (Int32.ofNat i) t1 = cf_98_L2 N X F 0 (wrdV b) v (Int32.ofNat r.length) (Int32.ofNat w) (v0 + r[i]) (Int32.ofNat (i + 1)) t2
      have E2 : cf_98_39 N X (cf_98_L2 N X F) (wrdV b) v (Int32.ofNat r.length) (Int32.ofNat w) v0 (Int32.ofNat i) t1 = cf_98_58 N X (cf_98_L2 N X F) (wrdV b) v (Int32.ofNat r.length) (Int32.ofNat w) (Int32.ofNat i) v0 r[i] t1 := by
        generalize wrdV b = W
        unfold cf_98_39 cf_98_46
        simp (disch := omega) only [ev_S, ev_C, ↓reduceIte, Nat.reduceEqDiff, Nat.reduceLeDiff, Nat.reduceAdd, Nat.reduceMul, Nat.reduceSub, reduceCtorEq, l32_0, l32_1, l32_2, l32_3, l32_4, l32_5, l32_6, l32_7, l32_8, l32_9, l32_10, l32_11, l32_12, l32_13, l32_14, l32_15, l32_16, l32_17, l32_18, l32_19, l32_20, l32_21, l32_22, l32_23, l32_24, l32_25, l32_26, l32_27, l32_28, l32_29, l32_33, l32_40, l32_41, l32_44, l32_45, l32_59, l32_61, l32_91, l32_93, l32_123, l32_125, n1, ia]
      have E3 : ∀ W, cf_98_92 N X (cf_98_L2 N X F) W v (Int32.ofNat r.length) (Int32.ofNat w) (v0 + r[i]) (Int32.ofNat i) (Int32.ofNat 0) (wrk b r)[i] t1 = cf_98_L2 N X F 0 W v (Int32.ofNat r.length) (Int32.ofNat w) (v0 + r[i]) (Int32.ofNat (i + 1)) t2 := fun W => by
        unfold cf_98_92 cf_98_95 cf_98_98
        simp (disch := omega) only [ev_S, ev_C, ↓reduceIte, Nat.reduceEqDiff, Nat.reduceLeDiff, Nat.reduceAdd, Nat.reduceMul, Nat.reduceSub, reduceCtorEq, l32_0, l32_1, l32_2, l32_3, l32_4, l32_5, l32_6, l32_7, l32_8, l32_9, l32_10, l32_11, l32_12, l32_13, l32_14, l32_15, l32_16, l32_17, l32_18, l32_19, l32_20, l32_21, l32_22, l32_23, l32_24, l32_25, l32_26, l32_27, l32_28, l32_29, l32_33, l32_40, l32_41, l32_44, l32_45, l32_59, l32_61, l32_91, l32_93, l32_123, l32_125, th, p1]
      rw [E2]
      unfold cf_98_58
      rw [if_pos (wgd (a := 12 + b) (c := 25) (by omega) (by omega)), wrd_ne]
      have hw1 := hW i hi
      rcases hb with rfl | rfl
      · rw [if_pos rfl, scn_s hi, ← P1] at hw1
        rw [if_pos (by decide), ← E3 (wrdV 12), hw1]
        rfl
      · rw [if_neg (show ¬ 13 = 12 by omega)] at hw1
        rw [if_neg (by decide), ← E3 (wrdV 13)]
        have h6 := P3 rfl
        have pio := c_pio (N := N) (X := X) (t := t1) (q := i) (by rw [h6]) (by omega)
        rw [h6] at pio
        have hgi := s2 i (by rw [grd_len]; exact hi)
        have pio : cf_101 N X (Int32.ofNat i) t1 = some (t1, .inl (some (.int (g i)))) := pio
        obtain ⟨q, hq, eq⟩ := grd_mem hr (List.getElem_mem (show i < (grd r).length by rw [grd_len]; exact hi))
        have ia2 := c_intAt (N := N) (X := X) G.c hV hq
        have ev : r.getD (Int32.ofNat q).toNatClampNeg 0 = r[q] := by
          rw [ev_S.1 (by omega), List.getD_eq_getElem?_getD, List.getElem?_eq_getElem hq]
          rfl
        rw [eq, ev] at hw1
        rw [hgi, eq] at pio
        rw [hw1]
        unfold cf_98_73
        rw [pio]
        show cf_98_84 N X (cf_98_L2 N X F) (wrdV 13) v (Int32.ofNat r.length) (Int32.ofNat w) (v0 + r[i]) (Int32.ofNat i) 0 v (Int32.ofNat q) t1 = _
        unfold cf_98_84
        rw [ia2]
        rfl
  · intro F c hP
    obtain ⟨v0, t1⟩ := c
    obtain ⟨P1, G, P3⟩ := hP
    have G : cG t t1 u u w (((wrk b r).take r.length).map nZ) := G
    rw [← hwl, List.take_length] at G
    obtain ⟨t2, v2, b1, b2, b3⟩ := cG.mkRow (N := N) (X := X) hN G (by rw [hwl]; exact hr) (by omega) (by omega)
    rw [hwl] at b2 b3
    refine ⟨t2, v2, ?_, b2, b3⟩
    show cf_98_39 N X (cf_98_L2 N X F) (wrdV b) v (Int32.ofNat r.length) (Int32.ofNat w) v0 (Int32.ofNat r.length) t1 = _
    generalize wrdV b = W
    unfold cf_98_39 cf_98_104 cf_98_114
    simp (disch := omega) only [ev_S, ev_C, ↓reduceIte, Nat.reduceEqDiff, Nat.reduceLeDiff, Nat.reduceAdd, Nat.reduceMul, Nat.reduceSub, reduceCtorEq, l32_0, l32_1, l32_2, l32_3, l32_4, l32_5, l32_6, l32_7, l32_8, l32_9, l32_10, l32_11, l32_12, l32_13, l32_14, l32_15, l32_16, l32_17, l32_18, l32_19, l32_20, l32_21, l32_22, l32_23, l32_24, l32_25, l32_26, l32_27, l32_28, l32_29, l32_33, l32_40, l32_41, l32_44, l32_45, l32_59, l32_61, l32_91, l32_93, l32_123, l32_125, b1]
  · show kA t0 60 = _
    rw [ht0, if_pos hb, kAj, h60]
theorem wrk_ok (h : cN (cel t') (u + 1 + r.length) v (nR (wrk b r))) (G : cG t t' u (u + 1 + r.length) w []) (hr : r.length ≤ 64) : cE t t' u v (ansM 1 ((wrk b r).map nZ)) := by
  have hwl := wrk_len (b := b) (r := r)
  have hm : mk 1 ((wrk b r).map nZ) = some (mkR ((wrk b r).map nZ)) := by
    show (if ((wrk b r).map nZ).length ≤ 64 then some (mkR ((wrk b r).map nZ)) else none) = _
    rw [List.length_map, hwl, if_pos hr]
  have hwf := mk_wf (k := 1) (xs := (wrk b r).map nZ) (Or.inl ⟨rfl, nZs_ok.1⟩) nZs_ok.2.1 hm
  unfold ansM
  rw [hm]
  refine ⟨u + 1 + r.length, w, G.1, G.2.1, by omega, G.2.2.2.1, ?_, ?_, hwf.1, by rw [hwf.2]; exact Nat.le_refl _⟩
  · refine cN_iff.mpr ?_
    rw [mkR_Z]
    exact cN_iff.mp h
  · rw [mkR_Z]
    show _ ≤ u + (4 + (wrk b r).length)
    rw [hwl]
    omega
theorem c_chg (hN : 170000 ≤ N) (hb : b = 12 ∨ b = 13) (hh : cHp t u w) (hx : cN (cel t) u vx x) (wx : wfN x) (h60 : (kA t 60).1 = 64) (hu : u ≤ 162000) (hw : w ≤ 1000) : ∃ t' v, cf_97 N X (wrdV b) vx t = some (t', .inl (some (.long v))) ∧ cE t t' u v (if kn x = 1 ∨ kn x = 2 then ansK b x else .inl 3) := by
  have kx := c_kn (N := N) (X := X) hx
  have lx := kn_le (x := x)
  by_cases c1 : kn x = 1
  · rw [if_pos (Or.inl c1)]
    have hr := rv_wf c1 wx
    have hxr : cN (cel t) u vx (nR (rvN x)) := cN_iff.mpr (hx.r c1)
    obtain ⟨t2, v2, e1, e2, e3⟩ := c_chR (N := N) (X := X) hN hb hh hxr hr h60 (by omega) (by omega)
    have ea : ansK b x = ansM 1 ((wrk b (rvN x)).map nZ) := if_pos c1
    rw [ea]
    refine ⟨t2, v2, ?_, wrk_ok e3 e2 hr⟩
    rw [c1] at kx
    generalize wrdV b = W at *
    unfold cf_97 cf_97_0 cf_97_4 cf_97_8 cf_97_14
    simp (disch := omega) only [ev_S, ev_C, ↓reduceIte, Nat.reduceEqDiff, Nat.reduceLeDiff, Nat.reduceAdd, Nat.reduceMul, Nat.reduceSub, reduceCtorEq, l32_0, l32_1, l32_2, l32_3, l32_4, l32_5, l32_6, l32_7, l32_8, l32_9, l32_10, l32_11, l32_12, l32_13, l32_14, l32_15, l32_16, l32_17, l32_18, l32_19, l32_20, l32_21, l32_22, l32_23, l32_24, l32_25, l32_26, l32_27, l32_28, l32_29, l32_33, l32_40, l32_41, l32_44, l32_45, l32_59, l32_61, l32_91, l32_93, l32_123, l32_125, kx, e1]
  · by_cases c2 : kn x = 2
    · rw [if_pos (Or.inr c2)]
      have ea : ansK b x = ansM 2 (((tvN x).map (wrk b)).map nR) := if_neg c1
      rw [ea]
      have zx := c_sizeN (N := N) (X := X) hh hx
      rw [kn2_sz c2] at zx
      have tw := tv_wf c2 wx
      have ga := c_gathered (N := N) (X := X) hh
      rw [c2] at kx
      have PT := fun i (hi : i < (tvN x).length) t' u' ys (G : cG t t' u u' w ys) => c_rowT (N := N) (X := X) G.c (G.up hx) c2 hi
      generalize tvN x = q at *
      have E2 : cf_97 N X (wrdV b) vx t = cf_97_L2 N X N 0 (wrdV b) vx (Int32.ofNat q.length) (Int32.ofNat w) (Int32.ofNat 0) t := by
        generalize wrdV b = W
        unfold cf_97 cf_97_0 cf_97_4 cf_97_15 cf_97_19 cf_97_28 cf_97_36 cf_97_45
        simp (disch := omega) only [ev_S, ev_C, ↓reduceIte, Nat.reduceEqDiff, Nat.reduceLeDiff, Nat.reduceAdd, Nat.reduceMul, Nat.reduceSub, reduceCtorEq, l32_0, l32_1, l32_2, l32_3, l32_4, l32_5, l32_6, l32_7, l32_8, l32_9, l32_10, l32_11, l32_12, l32_13, l32_14, l32_15, l32_16, l32_17, l32_18, l32_19, l32_20, l32_21, l32_22, l32_23, l32_24, l32_25, l32_26, l32_27, l32_28, l32_29, l32_33, l32_40, l32_41, l32_44, l32_45, l32_59, l32_61, l32_91, l32_93, l32_123, l32_125, kx, zx, ga]
      rw [E2]
      have sml : ∀ i, ((q.take i).map List.length).sum ≤ 200 := fun i => Nat.le_trans (take_sum q i) tw.2.1
      refine lp (fun F i (t' : cS) => cf_97_L2 N X F 0 (wrdV b) vx (Int32.ofNat q.length) (Int32.ofNat w) (Int32.ofNat i) t') q.length (fun i t' => cG t t' u (u + (i + ((q.take i).map List.length).sum)) w (((q.take i).map (wrk b)).map nR)) (fun R => ∃ t' v, R = some (t', .inl (some (.long v))) ∧ cE t t' u v (ansM 2 ((q.map (wrk b)).map nR))) ?_ ?_ q.length 0 N t (Nat.zero_add _) (by omega) (cG.nil hh)
      · intro F i t1 hi G _
        left
        have hli : ((q.take i).map (wrk b)).length = i := len_take_map (by omega)
        have hll : (((q.take i).map (wrk b)).map nR).length = i := by rw [List.length_map, hli]
        have hsi := sml i
        have n1 : ¬ q.length ≤ i := by omega
        obtain ⟨v1, d1, d2⟩ := PT i hi t1 _ _ G
        obtain ⟨t2, v, r1, r2, r3⟩ := c_chR (N := N) (X := X) hN hb G.c d2 (tw.2.2 _ (List.getElem_mem hi)) (G.c60 h60) (by rw [hll]; omega) (by omega)
        obtain ⟨t3, p1, p2⟩ := cG.addRow (N := N) (X := X) G r2 r3 (by rw [hll]; omega)
        refine ⟨t3, ?_, ?_⟩
        · rw [take_sum_s hi, take_map_s hi, List.map_append]
          have e : u + (i + 1 + (((q.take i).map List.length).sum + q[i].length)) = u + (i + ((q.take i).map List.length).sum) + 1 + q[i].length := by omega
          rw [e]
          exact p2
        · show cf_97_50 N X (cf_97_L2 N X F) (wrdV b) vx (Int32.ofNat q.length) (Int32.ofNat w) (Int32.ofNat i) t1 = _
          generalize wrdV b = W at *
          unfold cf_97_50 cf_97_57 cf_97_73 cf_97_76 cf_97_79
          simp (disch := omega) only [ev_S, ev_C, ↓reduceIte, Nat.reduceEqDiff, Nat.reduceLeDiff, Nat.reduceAdd, Nat.reduceMul, Nat.reduceSub, reduceCtorEq, l32_0, l32_1, l32_2, l32_3, l32_4, l32_5, l32_6, l32_7, l32_8, l32_9, l32_10, l32_11, l32_12, l32_13, l32_14, l32_15, l32_16, l32_17, l32_18, l32_19, l32_20, l32_21, l32_22, l32_23, l32_24, l32_25, l32_26, l32_27, l32_28, l32_29, l32_33, l32_40, l32_41, l32_44, l32_45, l32_59, l32_61, l32_91, l32_93, l32_123, l32_125, n1, d1, r1, p1]
      · intro F t1 G
        rw [List.take_length] at G
        have hlp : (q.map (wrk b)).length = q.length := List.length_map _
        have hsl : ((q.map (wrk b)).map List.length).sum = (q.map List.length).sum := by
          rw [List.map_map, show (List.length ∘ wrk b) = List.length from funext (fun r => wrk_len)]
        have hs := tw.2.1
        obtain ⟨t2, v, b1, b2⟩ := cG.bT (N := N) (X := X) hN G (fun r' hr' => by
          obtain ⟨z, hz, rfl⟩ := List.mem_map.mp hr'
          rw [wrk_len]
          exact tw.2.2 z hz) (by rw [hlp, hsl]; omega) (by rw [hlp, hsl]; omega) (by omega) (by omega)
        refine ⟨t2, v, ?_, b2⟩
        show cf_97_50 N X (cf_97_L2 N X F) (wrdV b) vx (Int32.ofNat q.length) (Int32.ofNat w) (Int32.ofNat q.length) t1 = _
        generalize wrdV b = W
        unfold cf_97_50 cf_97_85 cf_97_95
        simp (disch := omega) only [ev_S, ev_C, ↓reduceIte, Nat.reduceEqDiff, Nat.reduceLeDiff, Nat.reduceAdd, Nat.reduceMul, Nat.reduceSub, reduceCtorEq, l32_0, l32_1, l32_2, l32_3, l32_4, l32_5, l32_6, l32_7, l32_8, l32_9, l32_10, l32_11, l32_12, l32_13, l32_14, l32_15, l32_16, l32_17, l32_18, l32_19, l32_20, l32_21, l32_22, l32_23, l32_24, l32_25, l32_26, l32_27, l32_28, l32_29, l32_33, l32_40, l32_41, l32_44, l32_45, l32_59, l32_61, l32_91, l32_93, l32_123, l32_125, b1]
    · rw [if_neg (fun z => z.elim c1 c2)]
      refine ⟨t, _, ?_, cE.tr hh⟩
      have b1 := c_rf (N := N) (X := X) (t := t) (k := Int32.ofNat 3)
      generalize kn x = kx' at *
      generalize wrdV b = W
      unfold cf_97 cf_97_0 cf_97_4 cf_97_15 cf_97_19 cf_97_23 cf_97_27
      simp (disch := omega) only [ev_S, ev_C, ↓reduceIte, Nat.reduceEqDiff, Nat.reduceLeDiff, Nat.reduceAdd, Nat.reduceMul, Nat.reduceSub, reduceCtorEq, l32_0, l32_1, l32_2, l32_3, l32_4, l32_5, l32_6, l32_7, l32_8, l32_9, l32_10, l32_11, l32_12, l32_13, l32_14, l32_15, l32_16, l32_17, l32_18, l32_19, l32_20, l32_21, l32_22, l32_23, l32_24, l32_25, l32_26, l32_27, l32_28, l32_29, l32_33, l32_40, l32_41, l32_44, l32_45, l32_59, l32_61, l32_91, l32_93, l32_123, l32_125, kx, c1, c2, b1]
theorem c_grd (hN : 170000 ≤ N) (hh : cHp t u w) (hx : cN (cel t) u vx x) (wx : wfN x) (h60 : (kA t 60).1 = 64) (hu : u ≤ 162000) (hw : w ≤ 1000) : ∃ t' v, cf_99 N X vx t = some (t', .inl (some (.long v))) ∧ cE t t' u v (if kn x = 1 then ansK 14 x else .inl 3) := by
  have kx := c_kn (N := N) (X := X) hx
  have lx := kn_le (x := x)
  by_cases c1 : kn x = 1
  · rw [if_pos c1]
    have ea : ansK 14 x = ansM 1 ((grd (rvN x)).map nZ) := if_pos c1
    rw [ea]
    have hr := rv_wf c1 wx
    have hxr : cN (cel t) u vx (nR (rvN x)) := cN_iff.mpr (hx.r c1)
    have zz := c_sizeN (N := N) (X := X) hh hxr
    have zz : cf_128 N X vx t = some (t, .inl (some (.int (Int32.ofNat (rvN x).length)))) := zz
    have ga := c_gathered (N := N) (X := X) hh
    obtain ⟨g, s1, s2⟩ := c_srt (N := N) (X := X) hN hh hxr hr h60
    rw [c1] at kx
    generalize rvN x = r at *
    have G0 : cG t (jA t 60 g) u u w [] := (cG.nil hh).j60
    have E1 : cf_99 N X vx t = cf_99_L2 N X N 0 (Int32.ofNat r.length) (Int32.ofNat w) (Int32.ofNat 0) (jA t 60 g) := by
      unfold cf_99 cf_99_0 cf_99_4 cf_99_13 cf_99_21 cf_99_29 cf_99_37
      simp (disch := omega) only [ev_S, ev_C, ↓reduceIte, Nat.reduceEqDiff, Nat.reduceLeDiff, Nat.reduceAdd, Nat.reduceMul, Nat.reduceSub, reduceCtorEq, l32_0, l32_1, l32_2, l32_3, l32_4, l32_5, l32_6, l32_7, l32_8, l32_9, l32_10, l32_11, l32_12, l32_13, l32_14, l32_15, l32_16, l32_17, l32_18, l32_19, l32_20, l32_21, l32_22, l32_23, l32_24, l32_25, l32_26, l32_27, l32_28, l32_29, l32_33, l32_40, l32_41, l32_44, l32_45, l32_59, l32_61, l32_91, l32_93, l32_123, l32_125, kx, zz, ga, s1]
    rw [E1]
    have hgl := grd_len (r := r)
    refine lp (fun F i (t' : cS) => cf_99_L2 N X F 0 (Int32.ofNat r.length) (Int32.ofNat w) (Int32.ofNat i) t') r.length (fun i t' => cG t t' u u w (((grd r).take i).map nZ) ∧ kA t' 60 = (64, g)) (fun R => ∃ t' v, R = some (t', .inl (some (.long v))) ∧ cE t t' u v (ansM 1 ((grd r).map nZ))) ?_ ?_ r.length 0 N _ (Nat.zero_add _) (by omega) ⟨G0, by rw [kAj, h60]⟩
    · intro F i t1 hi hP _
      left
      obtain ⟨G, h6⟩ := hP
      have hi' : i < (grd r).length := by rw [hgl]; exact hi
      have n1 : ¬ r.length ≤ i := by omega
      have hll : (((grd r).take i).map nZ).length = i := len_take_map (by omega)
      obtain ⟨t2, p1, p2, p3⟩ := cG.put60 (N := N) (X := X) G (by rw [hll]; omega) (cN_Z (z := (grd r)[i]))
      have th := c_thing (N := N) (X := X) (t := t1) (k := Int32.ofNat 0) (a := (grd r)[i])
      have p1 : cf_123 N X (tg (Int32.ofNat 0) (grd r)[i]) t1 = _ := p1
      have pio := c_pio (N := N) (X := X) (t := t1) (q := i) (by rw [h6]) (by omega)
      rw [h6] at pio
      have pio : cf_101 N X (Int32.ofNat i) t1 = some (t1, .inl (some (.int (g i)))) := pio
      rw [s2 i hi'] at pio
      refine ⟨t2, ⟨?_, by rw [p3]; exact h6⟩, ?_⟩
      · rw [take_map_s hi']
        exact p2
      · show cf_99_40 N X (cf_99_L2 N X F) (Int32.ofNat r.length) (Int32.ofNat w) (Int32.ofNat i) t1 = _
        unfold cf_99_40 cf_99_46 cf_99_57 cf_99_60 cf_99_63
        simp (disch := omega) only [ev_S, ev_C, ↓reduceIte, Nat.reduceEqDiff, Nat.reduceLeDiff, Nat.reduceAdd, Nat.reduceMul, Nat.reduceSub, reduceCtorEq, l32_0, l32_1, l32_2, l32_3, l32_4, l32_5, l32_6, l32_7, l32_8, l32_9, l32_10, l32_11, l32_12, l32_13, l32_14, l32_15, l32_16, l32_17, l32_18, l32_19, l32_20, l32_21, l32_22, l32_23, l32_24, l32_25, l32_26, l32_27, l32_28, l32_29, l32_33, l32_40, l32_41, l32_44, l32_45, l32_59, l32_61, l32_91, l32_93, l32_123, l32_125, n1, pio, th, p1]
    · intro F t1 hP
      obtain ⟨G, h6⟩ := hP
      rw [← hgl, List.take_length] at G
      obtain ⟨t2, v, b1, b2⟩ := cG.bZ (N := N) (X := X) hN G (Or.inl rfl) (by omega) (by omega) (by omega)
      refine ⟨t2, v, ?_, b2⟩
      show cf_99_40 N X (cf_99_L2 N X F) (Int32.ofNat r.length) (Int32.ofNat w) (Int32.ofNat r.length) t1 = _
      unfold cf_99_40 cf_99_69 cf_99_79
      simp (disch := omega) only [ev_S, ev_C, ↓reduceIte, Nat.reduceEqDiff, Nat.reduceLeDiff, Nat.reduceAdd, Nat.reduceMul, Nat.reduceSub, reduceCtorEq, l32_0, l32_1, l32_2, l32_3, l32_4, l32_5, l32_6, l32_7, l32_8, l32_9, l32_10, l32_11, l32_12, l32_13, l32_14, l32_15, l32_16, l32_17, l32_18, l32_19, l32_20, l32_21, l32_22, l32_23, l32_24, l32_25, l32_26, l32_27, l32_28, l32_29, l32_33, l32_40, l32_41, l32_44, l32_45, l32_59, l32_61, l32_91, l32_93, l32_123, l32_125, b1]
  · rw [if_neg c1]
    refine ⟨t, _, ?_, cE.tr hh⟩
    have b1 := c_rf (N := N) (X := X) (t := t) (k := Int32.ofNat 3)
    generalize kn x = kx' at *
    unfold cf_99 cf_99_0 cf_99_4 cf_99_8 cf_99_12
    simp (disch := omega) only [ev_S, ev_C, ↓reduceIte, Nat.reduceEqDiff, Nat.reduceLeDiff, Nat.reduceAdd, Nat.reduceMul, Nat.reduceSub, reduceCtorEq, l32_0, l32_1, l32_2, l32_3, l32_4, l32_5, l32_6, l32_7, l32_8, l32_9, l32_10, l32_11, l32_12, l32_13, l32_14, l32_15, l32_16, l32_17, l32_18, l32_19, l32_20, l32_21, l32_22, l32_23, l32_24, l32_25, l32_26, l32_27, l32_28, l32_29, l32_33, l32_40, l32_41, l32_44, l32_45, l32_59, l32_61, l32_91, l32_93, l32_123, l32_125, kx, c1, b1]
end SRD
