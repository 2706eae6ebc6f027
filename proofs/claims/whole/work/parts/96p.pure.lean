/-! ===== PURE: run (43): scan, sort, grade: the reference, all ===== -/
section WRK
variable {N b a n f f' m : Nat} {s s' : mS} {r : List Int32} {xs ys : List Nod} {x : Nod} {xv : Int32}
/-- what is laid down first -/
def fst3 (b : Nat) (r : List Int32) (i : Nat) : Int32 := if b = 12 then (r.take (i + 1)).foldl (· + ·) 0 else if b = 13 then r.getD i 0 else Int32.ofNat i
theorem r_wrk (hN : 170000 ≤ N) (hb : b = 12 ∨ b = 13 ∨ b = 14) (G : rG s s' n f f' xs) (L : LayN (s.2.2.1 47) (Rf f) a (nR r)) (hf : f ≤ 166000) (hr : r.length ≤ 64) (hn : n + xs.length + 75 < 9000) : ∃ s'', mf_332 N (Int32.ofNat b) (Int32.ofNat a) s' = some (s'', none) ∧ rG s s'' n f f' (xs ++ (wrk b r).map nZ) := by
  have hlt := rowlt L
  have sp := G.1.1
  have E0 : mf_332 N (Int32.ofNat b) (Int32.ofNat a) s' = mf_332_L5 N N 0 (Int32.ofNat b) (Int32.ofNat a) (Int32.ofNat (n + xs.length)) (Int32.ofNat 0) (Int32.ofNat 0) s' := by
    unfold mf_332 mf_332_0
    rw [sp]
    rfl
  have E1 : ∃ s1, mf_332_L5 N N 0 (Int32.ofNat b) (Int32.ofNat a) (Int32.ofNat (n + xs.length)) (Int32.ofNat 0) (Int32.ofNat 0) s' = mf_332_76 N (Int32.ofNat b) (Int32.ofNat a) (Int32.ofNat (n + xs.length)) s1 ∧ rG s s1 n f f' (xs ++ ((List.range r.length).map (fst3 b r)).map nZ) := by
    refine lp (fun F i (c : Int32 × mS) => mf_332_L5 N F 0 (Int32.ofNat b) (Int32.ofNat a) (Int32.ofNat (n + xs.length)) c.1 (Int32.ofNat i) c.2) r.length (fun i c => c.1 = (r.take i).foldl (· + ·) 0 ∧ rG s c.2 n f f' (xs ++ ((List.range i).map (fst3 b r)).map nZ)) (fun R => ∃ s1, R = mf_332_76 N (Int32.ofNat b) (Int32.ofNat a) (Int32.ofNat (n + xs.length)) s1 ∧ rG s s1 n f f' (xs ++ ((List.range r.length).map (fst3 b r)).map nZ)) ?_ ?_ r.length 0 N (Int32.ofNat 0, s') (Nat.zero_add _) (by omega) ⟨rfl, by rw [List.range_zero, List.map_nil, List.map_nil, List.append_nil]; exact G⟩
    · intro F i c hi hP _
      left
      obtain ⟨v0, s1⟩ := c
      obtain ⟨P1, P2⟩ := hP
      have P1 : v0 = _ := P1
      have P2 : rG s s1 n f f' (xs ++ ((List.range i).map (fst3 b r)).map nZ) := P2
      have zz := P2.size (N := N) L (by omega)
      have zz : mf_77 N (Int32.ofNat a) s1 = some (s1, some (.int (Int32.ofNat r.length))) := zz
      have cc := P2.cell L hi
      have n1 : ¬ r.length ≤ i := by omega
      have hll : (xs ++ ((List.range i).map (fst3 b r)).map nZ).length = xs.length + i := by rw [List.length_append, List.length_map, List.length_map, List.length_range]
      obtain ⟨s2, p1, p2⟩ := rG.pushZ (N := N) P2 (by rw [hll]; omega) (fst3 b r i)
      refine ⟨(v0 + r[i], s2), ⟨?_, ?_⟩, ?_⟩
      · show v0 + r[i] = _
        rw [scn_s hi, P1]
      · show rG s s2 n f f' _
        rw [range_map_s, List.map_append, ← List.append_assoc]
        exact p2
      · show mf_332_11 N (mf_332_L5 N F) (Int32.ofNat b) (Int32.ofNat a) (Int32.ofNat (n + xs.length)) v0 (Int32.ofNat i) s1 = mf_332_L5 N F 0 (Int32.ofNat b) (Int32.ofNat a) (Int32.ofNat (n + xs.length)) (v0 + r[i]) (Int32.ofNat (i + 1)) s2
        rcases hb with rfl | rfl | rfl
        · have p1 : mf_291 N (Int32.ofNat 0) ((r.take (i + 1)).foldl (· + ·) 0) s1 = _ := p1
          rw [scn_s hi, ← P1] at p1
          unfold mf_332_11 mf_332_18 mf_332_21 mf_332_49 mf_332_67 mf_332_70
          simp (disch := omega) only [ev_S, ev_P, ↓reduceIte, Nat.reduceEqDiff, Nat.reduceLeDiff, Nat.reduceAdd, Nat.reduceMul, Nat.reduceSub, reduceCtorEq, l32_0, l32_1, l32_2, l32_3, l32_4, l32_5, l32_6, l32_7, l32_8, l32_9, l32_10, l32_11, l32_12, l32_13, l32_14, l32_15, l32_16, l32_17, l32_18, l32_19, l32_20, l32_21, l32_22, l32_23, l32_24, l32_25, l32_26, l32_27, l32_28, l32_29, l32_33, l32_40, l32_41, l32_44, l32_45, l32_59, l32_61, l32_91, l32_93, l32_123, l32_125, zz, n1, cc, p1]
        · have p1 : mf_291 N (Int32.ofNat 0) (r.getD i 0) s1 = _ := p1
          rw [List.getD_eq_getElem?_getD, List.getElem?_eq_getElem hi] at p1
          have p1 : mf_291 N (Int32.ofNat 0) r[i] s1 = _ := p1
          unfold mf_332_11 mf_332_18 mf_332_21 mf_332_54 mf_332_60 mf_332_67 mf_332_70
          simp (disch := omega) only [ev_S, ev_P, ↓reduceIte, Nat.reduceEqDiff, Nat.reduceLeDiff, Nat.reduceAdd, Nat.reduceMul, Nat.reduceSub, reduceCtorEq, l32_0, l32_1, l32_2, l32_3, l32_4, l32_5, l32_6, l32_7, l32_8, l32_9, l32_10, l32_11, l32_12, l32_13, l32_14, l32_15, l32_16, l32_17, l32_18, l32_19, l32_20, l32_21, l32_22, l32_23, l32_24, l32_25, l32_26, l32_27, l32_28, l32_29, l32_33, l32_40, l32_41, l32_44, l32_45, l32_59, l32_61, l32_91, l32_93, l32_123, l32_125, zz, n1, cc, p1]
        · have p1 : mf_291 N (Int32.ofNat 0) (Int32.ofNat i) s1 = _ := p1
          unfold mf_332_11 mf_332_18 mf_332_21 mf_332_54 mf_332_65 mf_332_67 mf_332_70
          simp (disch := omega) only [ev_S, ev_P, ↓reduceIte, Nat.reduceEqDiff, Nat.reduceLeDiff, Nat.reduceAdd, Nat.reduceMul, Nat.reduceSub, reduceCtorEq, l32_0, l32_1, l32_2, l32_3, l32_4, l32_5, l32_6, l32_7, l32_8, l32_9, l32_10, l32_11, l32_12, l32_13, l32_14, l32_15, l32_16, l32_17, l32_18, l32_19, l32_20, l32_21, l32_22, l32_23, l32_24, l32_25, l32_26, l32_27, l32_28, l32_29, l32_33, l32_40, l32_41, l32_44, l32_45, l32_59, l32_61, l32_91, l32_93, l32_123, l32_125, zz, n1, cc, p1]
    · intro F c hP
      obtain ⟨v0, s1⟩ := c
      obtain ⟨P1, P2⟩ := hP
      have P2 : rG s s1 n f f' (xs ++ ((List.range r.length).map (fst3 b r)).map nZ) := P2
      have zz := P2.size (N := N) L (by omega)
      have zz : mf_77 N (Int32.ofNat a) s1 = some (s1, some (.int (Int32.ofNat r.length))) := zz
      refine ⟨s1, ?_, P2⟩
      show mf_332_11 N (mf_332_L5 N F) (Int32.ofNat b) (Int32.ofNat a) (Int32.ofNat (n + xs.length)) v0 (Int32.ofNat r.length) s1 = _
      unfold mf_332_11 mf_332_18
      simp (disch := omega) only [ev_S, ev_P, ↓reduceIte, Nat.reduceEqDiff, Nat.reduceLeDiff, Nat.reduceAdd, Nat.reduceMul, Nat.reduceSub, reduceCtorEq, l32_0, l32_1, l32_2, l32_3, l32_4, l32_5, l32_6, l32_7, l32_8, l32_9, l32_10, l32_11, l32_12, l32_13, l32_14, l32_15, l32_16, l32_17, l32_18, l32_19, l32_20, l32_21, l32_22, l32_23, l32_24, l32_25, l32_26, l32_27, l32_28, l32_29, l32_33, l32_40, l32_41, l32_44, l32_45, l32_59, l32_61, l32_91, l32_93, l32_123, l32_125, zz]
  obtain ⟨s1, E1, G1⟩ := E1
  rw [E0, E1]
  have sv : ∀ i (hi : i < ((List.range r.length).map (fst3 b r)).length), s1.2.2.1 50 (n + xs.length + i) = ((List.range r.length).map (fst3 b r))[i] := fun i hi => by
    have q := G1.2.1 (xs.length + i) (by rw [List.length_append, List.length_map]; omega)
    rw [List.getElem_append_right (by omega)] at q
    simp only [Nat.add_sub_cancel_left] at q
    rw [List.getElem_map] at q
    rw [Nat.add_assoc]
    exact (rvl.z q).2
  have sp1 := G1.1.1
  rw [List.length_append, List.length_map] at sp1
  have hll : ((List.range r.length).map (fst3 b r)).length = r.length := by rw [List.length_map, List.length_range]
  by_cases c12 : b = 12
  · subst c12
    refine ⟨s1, ?_, ?_⟩
    · unfold mf_332_76 mf_332_82
      simp (disch := omega) only [ev_S, ev_P, ↓reduceIte, Nat.reduceEqDiff, Nat.reduceLeDiff, Nat.reduceAdd, Nat.reduceMul, Nat.reduceSub, reduceCtorEq, l32_0, l32_1, l32_2, l32_3, l32_4, l32_5, l32_6, l32_7, l32_8, l32_9, l32_10, l32_11, l32_12, l32_13, l32_14, l32_15, l32_16, l32_17, l32_18, l32_19, l32_20, l32_21, l32_22, l32_23, l32_24, l32_25, l32_26, l32_27, l32_28, l32_29, l32_33, l32_40, l32_41, l32_44, l32_45, l32_59, l32_61, l32_91, l32_93, l32_123, l32_125]
    · exact G1
  · have E2 : mf_332_76 N (Int32.ofNat b) (Int32.ofNat a) (Int32.ofNat (n + xs.length)) s1 = mf_332_83 N (Int32.ofNat b) (Int32.ofNat a) (Int32.ofNat (n + xs.length)) s1 := by
      unfold mf_332_76
      rw [if_pos (show ¬ Int32.ofNat b = 12 from fun z => c12 (ofNat_inj (by omega) (by omega) z))]
    rw [E2]
    have hW : wrk b r = srt (if b = 13 then id else fun z => r.getD z.toNatClampNeg 0) ((List.range r.length).map (fst3 b r)) := by
      rcases hb with rfl | rfl | rfl
      · exact absurd rfl c12
      · show srt id r = srt id ((List.range r.length).map (fun i => r.getD i 0))
        have e : (List.range r.length).map (fun i => r.getD i 0) = r.map id := range_getD (h := id)
        rw [e, List.map_id]
      · rfl
    have hcell : ∀ s2 : mS, srtF s1 s2 (n + xs.length) → ∀ i (hi : i < r.length), s2.2.2.1 47 (a + 2 + i) = r[i] := fun s2 h i hi => by
      rw [h.2.2.1 47 (by omega)]
      exact G1.cell L hi
    have hmem : ∀ z ∈ (List.range r.length).map (fst3 b r), b = 14 → ∃ i, i < r.length ∧ z = Int32.ofNat i := fun z hz h => by
      subst h
      obtain ⟨i, hi, rfl⟩ := List.mem_map.mp hz
      exact ⟨i, List.mem_range.mp hi, rfl⟩
    obtain ⟨s2, e1, e2, e3⟩ := r_srt (N := N) (b := b) (a := a) (base := n + xs.length) (s := s1) (l := (List.range r.length).map (fst3 b r)) (kf := if b = 13 then id else fun z => r.getD z.toNatClampNeg 0) hN (by omega) (by rw [hll]; exact hr) (by omega) (by rw [sp1, Nat.add_assoc]) sv (fun s2 rc x5 z h hz => by
      rcases hb with rfl | rfl | rfl
      · exact absurd rfl c12
      · rw [if_neg (fun q => q rfl), if_pos rfl]
        rfl
      · obtain ⟨i, hi, rfl⟩ := hmem z hz rfl
        have cc := hcell s2 h i hi
        rw [if_pos (by decide), if_neg (by omega)]
        have e : r.getD (Int32.ofNat i).toNatClampNeg 0 = r[i] := by
          rw [ev_S.1 (by omega), List.getD_eq_getElem?_getD, List.getElem?_eq_getElem hi]
          rfl
        rw [e]
        unfold mf_332_117
        simp (disch := omega) only [ev_S, ev_P, ↓reduceIte, Nat.reduceEqDiff, Nat.reduceLeDiff, Nat.reduceAdd, Nat.reduceMul, Nat.reduceSub, reduceCtorEq, l32_0, l32_1, l32_2, l32_3, l32_4, l32_5, l32_6, l32_7, l32_8, l32_9, l32_10, l32_11, l32_12, l32_13, l32_14, l32_15, l32_16, l32_17, l32_18, l32_19, l32_20, l32_21, l32_22, l32_23, l32_24, l32_25, l32_26, l32_27, l32_28, l32_29, l32_33, l32_40, l32_41, l32_44, l32_45, l32_59, l32_61, l32_91, l32_93, l32_123, l32_125, cc]) (fun s2 rc x5 x6 x7 j z h hz hj hs => by
      have es : Int32.ofNat (n + xs.length + (j + 1)) - 1 = Int32.ofNat (n + xs.length + j) := by
        rw [show n + xs.length + (j + 1) = n + xs.length + j + 1 by omega, Int32.ofNat_add]
        exact Int32.add_sub_cancel _ _
      rcases hb with rfl | rfl | rfl
      · exact absurd rfl c12
      · rw [if_pos rfl]
        unfold mf_332_140 mf_332_146
        rw [if_neg (fun q => q rfl), es, if_pos (gd (m := n + xs.length + j) rfl (by omega) (by omega)), ev_S.1 (by omega), hs]
        rfl
      · obtain ⟨i, hi, rfl⟩ := hmem z hz rfl
        have cc := hcell s2 h i hi
        rw [if_neg (by omega)]
        have e : r.getD (Int32.ofNat i).toNatClampNeg 0 = r[i] := by
          rw [ev_S.1 (by omega), List.getD_eq_getElem?_getD, List.getElem?_eq_getElem hi]
          rfl
        rw [e]
        unfold mf_332_140 mf_332_158
        rw [if_pos (by decide), es, if_pos (gd (m := n + xs.length + j) rfl (by omega) (by omega)), ev_S.1 (by omega), hs]
        simp (disch := omega) only [ev_S, ev_P, ↓reduceIte, Nat.reduceEqDiff, Nat.reduceLeDiff, Nat.reduceAdd, Nat.reduceMul, Nat.reduceSub, reduceCtorEq, l32_0, l32_1, l32_2, l32_3, l32_4, l32_5, l32_6, l32_7, l32_8, l32_9, l32_10, l32_11, l32_12, l32_13, l32_14, l32_15, l32_16, l32_17, l32_18, l32_19, l32_20, l32_21, l32_22, l32_23, l32_24, l32_25, l32_26, l32_27, l32_28, l32_29, l32_33, l32_40, l32_41, l32_44, l32_45, l32_59, l32_61, l32_91, l32_93, l32_123, l32_125, cc])
    refine ⟨s2, e1, ?_⟩
    rw [hW]
    exact rG.re G1 e2 (by rw [srt_len]) e3
theorem r_eachR (hN : 170000 ≤ N) (hb : b = 12 ∨ b = 13 ∨ b = 14) (H : rA s n f m ys) (hx : rvl (s.2.2.1 47) f (s.2.2.1 49 n) xv x) (hxv : s.2.2.1 50 n = xv) (wx : wfN x) (h12 : kn x = 1 ∨ kn x = 2) : ∃ s', mf_333 N (Int32.ofNat b) xv (Int32.ofNat n) s = some (s', none) ∧ rE s s' n f m (ansK b x) := by
  have H' := H
  obtain ⟨-, H2, H3, H4, H5, H6, H7, H8, H9, H10⟩ := H'
  have hx' : rvl (s.2.2.1 47) f (s.2.2.1 49 n) (s.2.2.1 50 n) x := by rw [hxv]; exact hx
  have kx := r_kindAt (N := N) hx' (by omega) (by omega)
  rw [kd_kn] at kx
  have G0 : rG s (mI s 51 (Int32.ofNat n)) n f f [] := rG.nil H2
  obtain ⟨s1, hs1⟩ : ∃ s1, s1 = mI s 51 (Int32.ofNat n) := ⟨_, rfl⟩
  rw [← hs1] at G0
  have b6 : ¬ b = 6 := by omega
  have b7 : ¬ b = 7 := by omega
  have b8 : ¬ b = 8 := by omega
  have b15 : ¬ b = 15 := by omega
  have b11 : ¬ b ≤ 11 := by omega
  obtain ⟨-, a, ea, La⟩ := hx.th (by omega)
  rw [ea]
  have E1 : ∀ R : mO, mf_334 N (Int32.ofNat b) (Int32.ofNat a) (Int32.ofNat n) (Int32.ofNat (kn x)) s1 = R → (∃ s', R = some (s', none) ∧ rE s s' n f m (ansK b x)) → ∃ s', mf_333 N (Int32.ofNat b) (Int32.ofNat a) (Int32.ofNat n) s = some (s', none) ∧ rE s s' n f m (ansK b x) := fun R h1 h2 => by
    obtain ⟨s', e1, e2⟩ := h2
    rw [e1] at h1
    refine ⟨s', ?_, e2⟩
    rw [hs1] at h1
    generalize kn x = kx' at *
    unfold mf_333 mf_333_0 mf_333_5 mf_333_31 mf_333_47 mf_333_97 mf_333_140 mf_333_146 mf_333_155 mf_333_289
    simp (disch := omega) only [ev_S, ev_P, ↓reduceIte, Nat.reduceEqDiff, Nat.reduceLeDiff, Nat.reduceAdd, Nat.reduceMul, Nat.reduceSub, reduceCtorEq, l32_0, l32_1, l32_2, l32_3, l32_4, l32_5, l32_6, l32_7, l32_8, l32_9, l32_10, l32_11, l32_12, l32_13, l32_14, l32_15, l32_16, l32_17, l32_18, l32_19, l32_20, l32_21, l32_22, l32_23, l32_24, l32_25, l32_26, l32_27, l32_28, l32_29, l32_33, l32_40, l32_41, l32_44, l32_45, l32_59, l32_61, l32_91, l32_93, l32_123, l32_125, kx, b6, b7, b8, b15, b11, h1]
  refine E1 _ rfl ?_
  unfold ansK
  by_cases c1 : kn x = 1
  · rw [if_pos c1, c1]
    have Lr := lay1 La c1
    have hr := rv_wf c1 wx
    obtain ⟨s2, w1, w2⟩ := r_wrk (N := N) hN hb G0 Lr (by omega) hr (by show n + 0 + 75 < 9000; omega)
    obtain ⟨s3, b1, b2⟩ := rA.bRow (N := N) hN H w2 (by rw [wrk_len]; omega) (by rw [wrk_len]; omega)
    refine ⟨s3, ?_, b2⟩
    unfold mf_334 mf_334_0 mf_334_6 mf_334_12 mf_334_18
    simp (disch := omega) only [ev_S, ev_P, ↓reduceIte, Nat.reduceEqDiff, Nat.reduceLeDiff, Nat.reduceAdd, Nat.reduceMul, Nat.reduceSub, reduceCtorEq, l32_0, l32_1, l32_2, l32_3, l32_4, l32_5, l32_6, l32_7, l32_8, l32_9, l32_10, l32_11, l32_12, l32_13, l32_14, l32_15, l32_16, l32_17, l32_18, l32_19, l32_20, l32_21, l32_22, l32_23, l32_24, l32_25, l32_26, l32_27, l32_28, l32_29, l32_33, l32_40, l32_41, l32_44, l32_45, l32_59, l32_61, l32_91, l32_93, l32_123, l32_125, w1, b1]
  · have c2 : kn x = 2 := by omega
    rw [if_neg c1, c2]
    have tw := tv_wf c2 wx
    have esz := kn2_sz c2
    have PT := fun i (hi : i < (tvN x).length) s2 fx xs (G : rG s s2 n f fx xs) => rG.partT (N := N) G La (by omega) c2 hi
    generalize tvN x = q at *
    have E2 : mf_334 N (Int32.ofNat b) (Int32.ofNat a) (Int32.ofNat n) (Int32.ofNat 2) s1 = mf_334_L2 N N 0 (Int32.ofNat b) (Int32.ofNat a) (Int32.ofNat n) (Int32.ofNat 0) s1 := by
      unfold mf_334 mf_334_0 mf_334_19
      simp (disch := omega) only [ev_S, ev_P, ↓reduceIte, Nat.reduceEqDiff, Nat.reduceLeDiff, Nat.reduceAdd, Nat.reduceMul, Nat.reduceSub, reduceCtorEq, l32_0, l32_1, l32_2, l32_3, l32_4, l32_5, l32_6, l32_7, l32_8, l32_9, l32_10, l32_11, l32_12, l32_13, l32_14, l32_15, l32_16, l32_17, l32_18, l32_19, l32_20, l32_21, l32_22, l32_23, l32_24, l32_25, l32_26, l32_27, l32_28, l32_29, l32_33, l32_40, l32_41, l32_44, l32_45, l32_59, l32_61, l32_91, l32_93, l32_123, l32_125]
    rw [E2]
    have hsums : ∀ i, (((q.take i).map (wrk b)).map List.length).sum ≤ 200 := fun i => by
      rw [List.map_map, show (List.length ∘ wrk b) = List.length from funext (fun r => wrk_len)]
      exact Nat.le_trans (take_sum q i) tw.2.1
    refine lp (fun F i (s' : mS) => mf_334_L2 N F 0 (Int32.ofNat b) (Int32.ofNat a) (Int32.ofNat n) (Int32.ofNat i) s') q.length (fun i s' => rG s s' n f (f + (2 * ((q.take i).map (wrk b)).length + (((q.take i).map (wrk b)).map List.length).sum)) (((q.take i).map (wrk b)).map nR)) (fun R => ∃ s', R = some (s', none) ∧ rE s s' n f m (ansM 2 ((q.map (wrk b)).map nR))) ?_ ?_ q.length 0 N s1 (Nat.zero_add _) (by omega) G0
    · intro F i s2 hi G _
      left
      have hsi := hsums i
      have hl0 : ((q.take i).map (wrk b)).length = i := len_take_map (by omega)
      have hll : (((q.take i).map (wrk b)).map nR).length = i := by rw [List.length_map, hl0]
      have zz := G.size (N := N) La (by omega)
      rw [esz] at zz
      have n1 : ¬ q.length ≤ i := by omega
      obtain ⟨c, d1, d2⟩ := PT i hi s2 _ _ G
      have hq64 := tw.2.2 _ (List.getElem_mem hi)
      have sp := G.1.1
      rw [hll] at sp
      obtain ⟨s3, w1, w2⟩ := r_wrk (N := N) hN hb G d2 (by omega) hq64 (by rw [hll]; omega)
      have hwl : (wrk b q[i]).length = q[i].length := wrk_len
      obtain ⟨s4, v1, v2⟩ := rG.row (N := N) hN w2 (by rw [hll, hwl]; omega) (by rw [hwl]; omega)
      rw [hll] at v1
      rw [hwl] at v2
      refine ⟨s4, ?_, ?_⟩
      · rw [take_map_s hi, List.map_append, List.map_append, List.length_append, List.sum_append]
        have e : f + (2 * (((q.take i).map (wrk b)).length + [wrk b q[i]].length) + ((((q.take i).map (wrk b)).map List.length).sum + ([wrk b q[i]].map List.length).sum)) = f + (2 * ((q.take i).map (wrk b)).length + (((q.take i).map (wrk b)).map List.length).sum) + 2 + q[i].length := by
          show f + (2 * (_ + 1) + (_ + ((wrk b q[i]).length + 0))) = _
          rw [hwl]
          omega
        rw [e]
        exact v2
      · show mf_334_22 N (mf_334_L2 N F) (Int32.ofNat b) (Int32.ofNat a) (Int32.ofNat n) (Int32.ofNat i) s2 = _
        unfold mf_334_22 mf_334_29 mf_334_32 mf_334_47 mf_334_50 mf_334_56
        simp (disch := omega) only [ev_S, ev_P, ↓reduceIte, Nat.reduceEqDiff, Nat.reduceLeDiff, Nat.reduceAdd, Nat.reduceMul, Nat.reduceSub, reduceCtorEq, l32_0, l32_1, l32_2, l32_3, l32_4, l32_5, l32_6, l32_7, l32_8, l32_9, l32_10, l32_11, l32_12, l32_13, l32_14, l32_15, l32_16, l32_17, l32_18, l32_19, l32_20, l32_21, l32_22, l32_23, l32_24, l32_25, l32_26, l32_27, l32_28, l32_29, l32_33, l32_40, l32_41, l32_44, l32_45, l32_59, l32_61, l32_91, l32_93, l32_123, l32_125, zz, n1, d1, sp, w1, v1]
    · intro F s2 G
      rw [List.take_length] at G
      have hsi := hsums q.length
      rw [List.take_length] at hsi
      have zz := G.size (N := N) La (by omega)
      rw [esz] at zz
      obtain ⟨s3, b1, b2⟩ := rA.bTab (N := N) hN H G (fun r' hr' => by
        obtain ⟨r, hr, rfl⟩ := List.mem_map.mp hr'
        rw [wrk_len]
        exact tw.2.2 r hr) (by rw [List.length_map]; omega) (by rw [List.length_map]; omega)
      refine ⟨s3, ?_, b2⟩
      show mf_334_22 N (mf_334_L2 N F) (Int32.ofNat b) (Int32.ofNat a) (Int32.ofNat n) (Int32.ofNat q.length) s2 = _
      unfold mf_334_22 mf_334_29 mf_334_62 mf_334_68
      simp (disch := omega) only [ev_S, ev_P, ↓reduceIte, Nat.reduceEqDiff, Nat.reduceLeDiff, Nat.reduceAdd, Nat.reduceMul, Nat.reduceSub, reduceCtorEq, l32_0, l32_1, l32_2, l32_3, l32_4, l32_5, l32_6, l32_7, l32_8, l32_9, l32_10, l32_11, l32_12, l32_13, l32_14, l32_15, l32_16, l32_17, l32_18, l32_19, l32_20, l32_21, l32_22, l32_23, l32_24, l32_25, l32_26, l32_27, l32_28, l32_29, l32_33, l32_40, l32_41, l32_44, l32_45, l32_59, l32_61, l32_91, l32_93, l32_123, l32_125, zz, b1]
end WRK
