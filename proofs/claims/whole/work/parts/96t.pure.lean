/-! ===== PURE: run (47): pick, find, outer: the reference ===== -/
def pck (x : Nod) (r : List Int32) : List Nod := (((pts x).zip r).filter fun p => !(p.2 == 0)).map fun p => p.1
def fndA (z : Int32) : List Int32 → Nat → Int32
  | [], _ => -Int32.ofNat 1
  | y :: r, k => if y = z then Int32.ofNat k else fndA z r (k + 1)
abbrev fndV (r : List Int32) (z : Int32) : Int32 := fndA z r 0
def ansP (x : Nod) (r : List Int32) : Ans := if szN x = r.length then ansM (kn x) (pck x r) else .inl 4
def ansF (r : List Int32) (y : Nod) : Ans := if kn y = 0 then .inr (nZ (fndV r (ivN y))) else ansM 1 (((rvN y).map (fndV r)).map nZ)
def ansO (r r' : List Int32) : Ans := if 20 < r.length ∨ 200 < r.length * r'.length then .inl 2 else ansM 2 ((r.map fun a => r'.map fun b => a * b).map nR)
section PFO
variable {N : Nat} {s s' : mS} {n f f' m a b i : Nat} {x y : Nod} {xs ys : List Nod} {r r' : List Int32} {z xk xv yk yv : Int32}
theorem pck_mem {p : Nod} (h : p ∈ pck x r) : p ∈ pts x := by
  obtain ⟨q, hq, rfl⟩ := List.mem_map.mp h
  exact (List.of_mem_zip (List.mem_filter.mp hq).1).1
theorem pck_len : (pck x r).length ≤ (pts x).length := by
  unfold pck
  rw [List.length_map]
  refine Nat.le_trans (List.length_filter_le _ _) ?_
  rw [List.length_zip]
  exact Nat.min_le_left _ _
/-- up to place i -/
def pckT (x : Nod) (r : List Int32) (i : Nat) : List Nod := ((((pts x).zip r).take i).filter fun p => !(p.2 == 0)).map fun p => p.1
theorem pckT_s (hi : i < (pts x).length) (hr : i < r.length) : pckT x r (i + 1) = pckT x r i ++ (if r[i] = 0 then [] else [(pts x)[i]]) := by
  unfold pckT
  have hz : i < ((pts x).zip r).length := by rw [List.length_zip]; omega
  rw [List.take_succ_eq_append_getElem hz, List.filter_append, List.map_append, List.getElem_zip]
  congr 1
  by_cases c : r[i] = 0
  · rw [if_pos c, List.filter_cons_of_neg (by rw [show (((pts x)[i], r[i]).2 == 0) = true from beq_iff_eq.mpr c]; intro h; cases h)]
    rfl
  · rw [if_neg c, List.filter_cons_of_pos (by rw [show (((pts x)[i], r[i]).2 == 0) = false from beq_eq_false_iff_ne.mpr c]; rfl)]
    rfl
theorem pckT_len : (pckT x r i).length ≤ i := by
  unfold pckT
  rw [List.length_map]
  refine Nat.le_trans (List.length_filter_le _ _) ?_
  rw [List.length_take]
  exact Nat.min_le_left _ _
theorem pckT_all (h : (pts x).length = r.length) : pckT x r (pts x).length = pck x r := by
  unfold pckT pck
  rw [List.take_of_length_le (by rw [List.length_zip]; omega)]
theorem r_pick (hN : 170000 ≤ N) (H : rA s n f m ys) (La : LayN (s.2.2.1 47) (Rf f) a x) (Lb : LayN (s.2.2.1 47) (Rf f) b (nR r)) (h0 : ¬ kn x = 0) (wx : wfN x) (dx : x.1 ≤ 4) (hr : r.length ≤ 64) : ∃ s', mf_340 N (Int32.ofNat a) (Int32.ofNat b) (Int32.ofNat n) s = some (s', none) ∧ rE s s' n f m (ansP x r) := by
  have H' := H
  obtain ⟨-, H2, H3, H4, H5, H6, H7, H8, H9, H10⟩ := H'
  have G0 : rG s (mI s 51 (Int32.ofNat n)) n f f [] := rG.nil H2
  have T := fun k => rA.trb (N := N) H s vfr.rf rfl rfl rfl k
  have za := H.g.size (N := N) La (by omega)
  have zb := H.g.size (N := N) Lb (by omega)
  have zb : mf_77 N (Int32.ofNat b) s = some (s, some (.int (Int32.ofNat r.length))) := zb
  have kd : s.2.2.1 47 a = Int32.ofNat (kn x) := by rw [(LayN_iff.mp La).2.kd.1]; exact kd_kn
  have hla := (LayN.lt La)
  have hlb := rowlt Lb
  have s64 := wf64 wx
  have hpl : (pts x).length = szN x := pts_len
  have E1 : mf_340 N (Int32.ofNat a) (Int32.ofNat b) (Int32.ofNat n) s = mf_340_18 N (Int32.ofNat a) (Int32.ofNat b) (Int32.ofNat n) (Int32.ofNat (kn x)) (Int32.ofNat (szN x)) (Int32.ofNat r.length) s := by
    generalize kn x = kx at *
    generalize szN x = sx at *
    unfold mf_340 mf_340_0 mf_340_13
    simp (disch := omega) only [ev_S, ev_P, ↓reduceIte, Nat.reduceEqDiff, Nat.reduceLeDiff, Nat.reduceAdd, Nat.reduceMul, Nat.reduceSub, reduceCtorEq, l32_0, l32_1, l32_2, l32_3, l32_4, l32_5, l32_6, l32_7, l32_8, l32_9, l32_10, l32_11, l32_12, l32_13, l32_14, l32_15, l32_16, l32_17, l32_18, l32_19, l32_20, l32_21, l32_22, l32_23, l32_24, l32_25, l32_26, l32_27, l32_28, l32_29, l32_33, l32_40, l32_41, l32_44, l32_45, l32_59, l32_61, l32_91, l32_93, l32_123, l32_125, za, zb, kd]
  rw [E1]
  unfold ansP
  by_cases c : szN x = r.length
  · rw [if_pos c]
    have E2 : mf_340_18 N (Int32.ofNat a) (Int32.ofNat b) (Int32.ofNat n) (Int32.ofNat (kn x)) (Int32.ofNat (szN x)) (Int32.ofNat r.length) s = mf_340_L2 N N 0 (Int32.ofNat a) (Int32.ofNat b) (Int32.ofNat n) (Int32.ofNat (kn x)) (Int32.ofNat 0) (mI s 51 (Int32.ofNat n)) := by
      unfold mf_340_18
      rw [if_pos (by rw [c])]
      rfl
    rw [E2]
    refine lp (fun F i (s' : mS) => mf_340_L2 N F 0 (Int32.ofNat a) (Int32.ofNat b) (Int32.ofNat n) (Int32.ofNat (kn x)) (Int32.ofNat i) s') (pts x).length (fun i s' => rG s s' n f f (pckT x r i)) (fun R => ∃ s', R = some (s', none) ∧ rE s s' n f m (ansM (kn x) (pck x r))) ?_ ?_ (pts x).length 0 N _ (Nat.zero_add _) (by omega) G0
    · intro F i s2 hi G _
      left
      have hir : i < r.length := by omega
      have zz := G.size (N := N) La (by omega)
      rw [← hpl] at zz
      have cc := G.cell Lb hir
      have n1 : ¬ (pts x).length ≤ i := by omega
      have hll := pckT_len (x := x) (r := r) (i := i)
      by_cases d : r[i] = 0
      · refine ⟨s2, ?_, ?_⟩
        · rw [pckT_s hi hir, if_pos d, List.append_nil]
          exact G
        · show mf_340_39 N (mf_340_L2 N F) (Int32.ofNat a) (Int32.ofNat b) (Int32.ofNat n) (Int32.ofNat (kn x)) (Int32.ofNat i) s2 = _
          generalize kn x = kx at *
          rw [d] at cc
          have cc : s2.2.2.1 47 (b + 2 + i) = Int32.ofNat 0 := cc
          unfold mf_340_39 mf_340_46 mf_340_49 mf_340_70
          simp (disch := omega) only [ev_S, ev_P, ↓reduceIte, Nat.reduceEqDiff, Nat.reduceLeDiff, Nat.reduceAdd, Nat.reduceMul, Nat.reduceSub, reduceCtorEq, l32_0, l32_1, l32_2, l32_3, l32_4, l32_5, l32_6, l32_7, l32_8, l32_9, l32_10, l32_11, l32_12, l32_13, l32_14, l32_15, l32_16, l32_17, l32_18, l32_19, l32_20, l32_21, l32_22, l32_23, l32_24, l32_25, l32_26, l32_27, l32_28, l32_29, l32_33, l32_40, l32_41, l32_44, l32_45, l32_59, l32_61, l32_91, l32_93, l32_123, l32_125, zz, n1, cc]
      · obtain ⟨s3, d1, d2⟩ := rG.elem (N := N) (i := i) G (by omega) (by omega) La hi
        refine ⟨s3, ?_, ?_⟩
        · rw [pckT_s hi hir, if_neg d]
          exact d2
        · show mf_340_39 N (mf_340_L2 N F) (Int32.ofNat a) (Int32.ofNat b) (Int32.ofNat n) (Int32.ofNat (kn x)) (Int32.ofNat i) s2 = _
          generalize kn x = kx at *
          have d' : ¬ r[i] = Int32.ofNat 0 := d
          unfold mf_340_39 mf_340_46 mf_340_49 mf_340_63 mf_340_70
          simp (disch := omega) only [ev_S, ev_P, ↓reduceIte, Nat.reduceEqDiff, Nat.reduceLeDiff, Nat.reduceAdd, Nat.reduceMul, Nat.reduceSub, reduceCtorEq, l32_0, l32_1, l32_2, l32_3, l32_4, l32_5, l32_6, l32_7, l32_8, l32_9, l32_10, l32_11, l32_12, l32_13, l32_14, l32_15, l32_16, l32_17, l32_18, l32_19, l32_20, l32_21, l32_22, l32_23, l32_24, l32_25, l32_26, l32_27, l32_28, l32_29, l32_33, l32_40, l32_41, l32_44, l32_45, l32_59, l32_61, l32_91, l32_93, l32_123, l32_125, zz, n1, cc, d', d1]
    · intro F s2 G
      rw [pckT_all (by omega)] at G
      have zz := G.size (N := N) La (by omega)
      rw [← hpl] at zz
      have hll := pck_len (x := x) (r := r)
      obtain ⟨s3, b1, b2⟩ := rA.builds (N := N) (k := kn x) hN H G (pts_ok h0 (fun y hy => pck_mem hy)) (fun y hy => wf_pts wx y (pck_mem hy)) (fun y hy => Nat.le_trans (pts_lv y (pck_mem hy)) dx) (by omega) (by omega) (by omega) (by omega)
      refine ⟨s3, ?_, b2⟩
      show mf_340_39 N (mf_340_L2 N F) (Int32.ofNat a) (Int32.ofNat b) (Int32.ofNat n) (Int32.ofNat (kn x)) (Int32.ofNat (pts x).length) s2 = _
      generalize kn x = kx at *
      unfold mf_340_39 mf_340_46 mf_340_76 mf_340_83
      simp (disch := omega) only [ev_S, ev_P, ↓reduceIte, Nat.reduceEqDiff, Nat.reduceLeDiff, Nat.reduceAdd, Nat.reduceMul, Nat.reduceSub, reduceCtorEq, l32_0, l32_1, l32_2, l32_3, l32_4, l32_5, l32_6, l32_7, l32_8, l32_9, l32_10, l32_11, l32_12, l32_13, l32_14, l32_15, l32_16, l32_17, l32_18, l32_19, l32_20, l32_21, l32_22, l32_23, l32_24, l32_25, l32_26, l32_27, l32_28, l32_29, l32_33, l32_40, l32_41, l32_44, l32_45, l32_59, l32_61, l32_91, l32_93, l32_123, l32_125, zz, b1]
  · rw [if_neg c]
    obtain ⟨b1, b2⟩ := T 4
    refine ⟨_, ?_, b2⟩
    generalize kn x = kx at *
    generalize szN x = sx at *
    unfold mf_340_18 mf_340_21 mf_340_30
    simp (disch := omega) only [ev_S, ev_P, ↓reduceIte, Nat.reduceEqDiff, Nat.reduceLeDiff, Nat.reduceAdd, Nat.reduceMul, Nat.reduceSub, reduceCtorEq, l32_0, l32_1, l32_2, l32_3, l32_4, l32_5, l32_6, l32_7, l32_8, l32_9, l32_10, l32_11, l32_12, l32_13, l32_14, l32_15, l32_16, l32_17, l32_18, l32_19, l32_20, l32_21, l32_22, l32_23, l32_24, l32_25, l32_26, l32_27, l32_28, l32_29, l32_33, l32_40, l32_41, l32_44, l32_45, l32_59, l32_61, l32_91, l32_93, l32_123, l32_125, c, b1]
theorem r_fnd (hN : 170000 ≤ N) (L : LayN (s.2.2.1 47) (Rf f) a (nR r)) (hf : f ≤ 166000) (hr : r.length ≤ 64) : mf_341 N (Int32.ofNat a) z s = some (s, some (.int (fndV r z))) := by
  have hlt := rowlt L
  have cell : ∀ i (hi : i < r.length), s.2.2.1 47 (a + 2 + i) = r[i] := ((LayN_iff.mp L).2).2.2
  have zz := r_size (N := N) (s := s) (LayN_iff.mp L).2 (Nat.le_trans (LayN.lt L).1 (by omega))
  have zz : mf_77 N (Int32.ofNat a) s = some (s, some (.int (Int32.ofNat r.length))) := zz
  have E1 : mf_341 N (Int32.ofNat a) z s = mf_341_L2 N N 0 (Int32.ofNat a) z (Int32.ofNat 0) s := rfl
  rw [E1]
  refine lp (fun F i (_ : Unit) => mf_341_L2 N F 0 (Int32.ofNat a) z (Int32.ofNat i) s) r.length (fun i _ => fndV r z = fndA z (r.drop i) i) (fun R => R = some (s, some (.int (fndV r z)))) ?_ ?_ r.length 0 N () (Nat.zero_add _) (by omega) rfl
  · intro F i _ hi hP _
    have n1 : ¬ r.length ≤ i := by omega
    have cc := cell i hi
    rw [List.drop_eq_getElem_cons hi] at hP
    have hP : fndV r z = if r[i] = z then Int32.ofNat i else fndA z (r.drop (i + 1)) (i + 1) := hP
    by_cases c : r[i] = z
    · right
      rw [if_pos c] at hP
      rw [hP]
      show mf_341_2 N (mf_341_L2 N F) (Int32.ofNat a) z (Int32.ofNat i) s = _
      unfold mf_341_2 mf_341_8 mf_341_11 mf_341_25
      simp (disch := omega) only [ev_S, ev_P, ↓reduceIte, Nat.reduceEqDiff, Nat.reduceLeDiff, Nat.reduceAdd, Nat.reduceMul, Nat.reduceSub, reduceCtorEq, l32_0, l32_1, l32_2, l32_3, l32_4, l32_5, l32_6, l32_7, l32_8, l32_9, l32_10, l32_11, l32_12, l32_13, l32_14, l32_15, l32_16, l32_17, l32_18, l32_19, l32_20, l32_21, l32_22, l32_23, l32_24, l32_25, l32_26, l32_27, l32_28, l32_29, l32_33, l32_40, l32_41, l32_44, l32_45, l32_59, l32_61, l32_91, l32_93, l32_123, l32_125, zz, n1, cc, c]
    · left
      rw [if_neg c] at hP
      refine ⟨(), hP, ?_⟩
      show mf_341_2 N (mf_341_L2 N F) (Int32.ofNat a) z (Int32.ofNat i) s = _
      unfold mf_341_2 mf_341_8 mf_341_11 mf_341_27
      simp (disch := omega) only [ev_S, ev_P, ↓reduceIte, Nat.reduceEqDiff, Nat.reduceLeDiff, Nat.reduceAdd, Nat.reduceMul, Nat.reduceSub, reduceCtorEq, l32_0, l32_1, l32_2, l32_3, l32_4, l32_5, l32_6, l32_7, l32_8, l32_9, l32_10, l32_11, l32_12, l32_13, l32_14, l32_15, l32_16, l32_17, l32_18, l32_19, l32_20, l32_21, l32_22, l32_23, l32_24, l32_25, l32_26, l32_27, l32_28, l32_29, l32_33, l32_40, l32_41, l32_44, l32_45, l32_59, l32_61, l32_91, l32_93, l32_123, l32_125, zz, n1, cc, c]
  · intro F _ hP
    rw [List.drop_length] at hP
    have hP : fndV r z = -Int32.ofNat 1 := hP
    rw [hP]
    show mf_341_2 N (mf_341_L2 N F) (Int32.ofNat a) z (Int32.ofNat r.length) s = _
    unfold mf_341_2 mf_341_8 mf_341_33
    simp (disch := omega) only [ev_S, ev_P, ↓reduceIte, Nat.reduceEqDiff, Nat.reduceLeDiff, Nat.reduceAdd, Nat.reduceMul, Nat.reduceSub, reduceCtorEq, l32_0, l32_1, l32_2, l32_3, l32_4, l32_5, l32_6, l32_7, l32_8, l32_9, l32_10, l32_11, l32_12, l32_13, l32_14, l32_15, l32_16, l32_17, l32_18, l32_19, l32_20, l32_21, l32_22, l32_23, l32_24, l32_25, l32_26, l32_27, l32_28, l32_29, l32_33, l32_40, l32_41, l32_44, l32_45, l32_59, l32_61, l32_91, l32_93, l32_123, l32_125, zz]
theorem r_find (hN : 170000 ≤ N) (H : rA s n f m ys) (La : LayN (s.2.2.1 47) (Rf f) a (nR r)) (hy : rvl (s.2.2.1 47) f (s.2.2.1 49 (n + 1)) yv y) (hyv : s.2.2.1 50 (n + 1) = yv) (hr : r.length ≤ 64) (wy : wfN y) (h1 : kn y ≤ 1) : ∃ s', mf_347_85 N (Int32.ofNat a) yv (Int32.ofNat n) s = some (s', none) ∧ rE s s' n f m (ansF r y) := by
  have H' := H
  obtain ⟨-, H2, H3, H4, H5, H6, H7, H8, H9, H10⟩ := H'
  have hy' : rvl (s.2.2.1 47) f (s.2.2.1 49 (n + 1)) (s.2.2.1 50 (n + 1)) y := by rw [hyv]; exact hy
  have ky := r_kindAt (N := N) hy' (by omega) (by omega)
  rw [kd_kn] at ky
  have G0 : rG s (mI s 51 (Int32.ofNat n)) n f f [] := rG.nil H2
  obtain ⟨s1, hs1⟩ : ∃ s1, s1 = mI s 51 (Int32.ofNat n) := ⟨_, rfl⟩
  rw [← hs1] at G0
  unfold ansF
  by_cases c0 : kn y = 0
  · rw [if_pos c0, (hy.iv c0).2]
    have fd := r_fnd (N := N) (s := s1) (z := ivN y) hN (G0.lay La) (by omega) hr
    obtain ⟨s2, p1, p2⟩ := rG.pushZ (N := N) G0 (by show n + 0 < 9000; omega) (fndV r (ivN y))
    refine ⟨s2, ?_, rG.int H p2 rfl⟩
    rw [hs1] at fd p1
    rw [c0] at ky
    unfold mf_347_85 mf_347_93 mf_347_106 mf_347_114 mf_347_117 mf_347_167
    simp (disch := omega) only [ev_S, ev_P, ↓reduceIte, Nat.reduceEqDiff, Nat.reduceLeDiff, Nat.reduceAdd, Nat.reduceMul, Nat.reduceSub, reduceCtorEq, l32_0, l32_1, l32_2, l32_3, l32_4, l32_5, l32_6, l32_7, l32_8, l32_9, l32_10, l32_11, l32_12, l32_13, l32_14, l32_15, l32_16, l32_17, l32_18, l32_19, l32_20, l32_21, l32_22, l32_23, l32_24, l32_25, l32_26, l32_27, l32_28, l32_29, l32_33, l32_40, l32_41, l32_44, l32_45, l32_59, l32_61, l32_91, l32_93, l32_123, l32_125, ky, fd, p1]
  · rw [if_neg c0]
    have c1 : kn y = 1 := by omega
    obtain ⟨-, e, ee, Le⟩ := hy.th c0
    have Lr := lay1 Le c1
    have hr' := rv_wf c1 wy
    have hlt := rowlt Lr
    rw [c1] at ky
    rw [ee]
    generalize rvN y = q at *
    have E1 : mf_347_85 N (Int32.ofNat a) (Int32.ofNat e) (Int32.ofNat n) s = mf_347_L10 N N 0 (Int32.ofNat a) (Int32.ofNat e) (Int32.ofNat n) (Int32.ofNat 0) s1 := by
      rw [hs1]
      unfold mf_347_85 mf_347_93 mf_347_120
      simp (disch := omega) only [ev_S, ev_P, ↓reduceIte, Nat.reduceEqDiff, Nat.reduceLeDiff, Nat.reduceAdd, Nat.reduceMul, Nat.reduceSub, reduceCtorEq, l32_0, l32_1, l32_2, l32_3, l32_4, l32_5, l32_6, l32_7, l32_8, l32_9, l32_10, l32_11, l32_12, l32_13, l32_14, l32_15, l32_16, l32_17, l32_18, l32_19, l32_20, l32_21, l32_22, l32_23, l32_24, l32_25, l32_26, l32_27, l32_28, l32_29, l32_33, l32_40, l32_41, l32_44, l32_45, l32_59, l32_61, l32_91, l32_93, l32_123, l32_125, ky]
    rw [E1]
    refine lp (fun F i (s' : mS) => mf_347_L10 N F 0 (Int32.ofNat a) (Int32.ofNat e) (Int32.ofNat n) (Int32.ofNat i) s') q.length (fun i s' => rG s s' n f f (((q.take i).map (fndV r)).map nZ)) (fun R => ∃ s', R = some (s', none) ∧ rE s s' n f m (ansM 1 ((q.map (fndV r)).map nZ))) ?_ ?_ q.length 0 N s1 (Nat.zero_add _) (by omega) G0
    · intro F i s2 hi G _
      left
      have zz := G.size (N := N) Lr (by omega)
      have zz : mf_77 N (Int32.ofNat e) s2 = some (s2, some (.int (Int32.ofNat q.length))) := zz
      have cc := G.cell Lr hi
      have n1 : ¬ q.length ≤ i := by omega
      have hll : (((q.take i).map (fndV r)).map nZ).length = i := by rw [List.length_map, len_take_map (by omega)]
      have fd := r_fnd (N := N) (s := s2) (z := q[i]) hN (G.lay La) (by omega) hr
      obtain ⟨s3, p1, p2⟩ := rG.pushZ (N := N) G (by rw [hll]; omega) (fndV r q[i])
      refine ⟨s3, ?_, ?_⟩
      · rw [take_map_s hi, List.map_append]
        exact p2
      · show mf_347_123 N (mf_347_L10 N F) (Int32.ofNat a) (Int32.ofNat e) (Int32.ofNat n) (Int32.ofNat i) s2 = _
        unfold mf_347_123 mf_347_130 mf_347_133 mf_347_151 mf_347_154
        simp (disch := omega) only [ev_S, ev_P, ↓reduceIte, Nat.reduceEqDiff, Nat.reduceLeDiff, Nat.reduceAdd, Nat.reduceMul, Nat.reduceSub, reduceCtorEq, l32_0, l32_1, l32_2, l32_3, l32_4, l32_5, l32_6, l32_7, l32_8, l32_9, l32_10, l32_11, l32_12, l32_13, l32_14, l32_15, l32_16, l32_17, l32_18, l32_19, l32_20, l32_21, l32_22, l32_23, l32_24, l32_25, l32_26, l32_27, l32_28, l32_29, l32_33, l32_40, l32_41, l32_44, l32_45, l32_59, l32_61, l32_91, l32_93, l32_123, l32_125, zz, n1, cc, fd, p1]
    · intro F s2 G
      rw [List.take_length] at G
      have zz := G.size (N := N) Lr (by omega)
      have zz : mf_77 N (Int32.ofNat e) s2 = some (s2, some (.int (Int32.ofNat q.length))) := zz
      obtain ⟨s3, b1, b2⟩ := rA.bRow (N := N) hN H G (by rw [List.length_map]; omega) (by rw [List.length_map]; omega)
      refine ⟨s3, ?_, b2⟩
      show mf_347_123 N (mf_347_L10 N F) (Int32.ofNat a) (Int32.ofNat e) (Int32.ofNat n) (Int32.ofNat q.length) s2 = _
      unfold mf_347_123 mf_347_130 mf_347_160 mf_347_167
      simp (disch := omega) only [ev_S, ev_P, ↓reduceIte, Nat.reduceEqDiff, Nat.reduceLeDiff, Nat.reduceAdd, Nat.reduceMul, Nat.reduceSub, reduceCtorEq, l32_0, l32_1, l32_2, l32_3, l32_4, l32_5, l32_6, l32_7, l32_8, l32_9, l32_10, l32_11, l32_12, l32_13, l32_14, l32_15, l32_16, l32_17, l32_18, l32_19, l32_20, l32_21, l32_22, l32_23, l32_24, l32_25, l32_26, l32_27, l32_28, l32_29, l32_33, l32_40, l32_41, l32_44, l32_45, l32_59, l32_61, l32_91, l32_93, l32_123, l32_125, zz, b1]
theorem out_sum {q : List Int32} : (((q.map fun a => r'.map fun b => a * b)).map List.length).sum = q.length * r'.length := by
  induction q with
  | nil => rw [List.length_nil, Nat.zero_mul]; rfl
  | cons z q ih =>
    rw [List.map_cons, List.map_cons, List.sum_cons, ih, List.length_map, List.length_cons, Nat.succ_mul]
    omega
theorem r_out (hN : 170000 ≤ N) (H : rA s n f m ys) (La : LayN (s.2.2.1 47) (Rf f) a (nR r)) (Lb : LayN (s.2.2.1 47) (Rf f) b (nR r')) (hr : r.length ≤ 64) (hr' : r'.length ≤ 64) : ∃ s', mf_343 N (Int32.ofNat a) (Int32.ofNat b) (Int32.ofNat n) s = some (s', none) ∧ rE s s' n f m (ansO r r') := by
  have H' := H
  obtain ⟨-, H2, H3, H4, H5, H6, H7, H8, H9, H10⟩ := H'
  have G0 : rG s (mI s 51 (Int32.ofNat n)) n f f [] := rG.nil H2
  have T := fun k => rA.trb (N := N) H s vfr.rf rfl rfl rfl k
  have za := H.g.size (N := N) La (by omega)
  have za : mf_77 N (Int32.ofNat a) s = some (s, some (.int (Int32.ofNat r.length))) := za
  have zb := H.g.size (N := N) Lb (by omega)
  have zb : mf_77 N (Int32.ofNat b) s = some (s, some (.int (Int32.ofNat r'.length))) := zb
  have hla := rowlt La
  have hlb := rowlt Lb
  have hmul : r.length * r'.length ≤ 64 * 64 := Nat.mul_le_mul hr hr'
  unfold ansO
  by_cases c : 20 < r.length ∨ 200 < r.length * r'.length
  · rw [if_pos c]
    obtain ⟨b1, b2⟩ := T 2
    refine ⟨_, ?_, b2⟩
    by_cases d : 20 < r.length
    · unfold mf_343 mf_343_0 mf_343_5 mf_343_27 mf_343_36
      simp (disch := omega) only [ev_S, ev_P, ↓reduceIte, Nat.reduceEqDiff, Nat.reduceLeDiff, Nat.reduceAdd, Nat.reduceMul, Nat.reduceSub, reduceCtorEq, l32_0, l32_1, l32_2, l32_3, l32_4, l32_5, l32_6, l32_7, l32_8, l32_9, l32_10, l32_11, l32_12, l32_13, l32_14, l32_15, l32_16, l32_17, l32_18, l32_19, l32_20, l32_21, l32_22, l32_23, l32_24, l32_25, l32_26, l32_27, l32_28, l32_29, l32_33, l32_40, l32_41, l32_44, l32_45, l32_59, l32_61, l32_91, l32_93, l32_123, l32_125, za, d, b1]
    · have e : ¬ r.length * r'.length ≤ 200 := by omega
      unfold mf_343 mf_343_0 mf_343_5 mf_343_10 mf_343_15 mf_343_20 mf_343_27 mf_343_36
      simp (disch := omega) only [ev_S, ev_P, ↓reduceIte, Nat.reduceEqDiff, Nat.reduceLeDiff, Nat.reduceAdd, Nat.reduceMul, Nat.reduceSub, reduceCtorEq, l32_0, l32_1, l32_2, l32_3, l32_4, l32_5, l32_6, l32_7, l32_8, l32_9, l32_10, l32_11, l32_12, l32_13, l32_14, l32_15, l32_16, l32_17, l32_18, l32_19, l32_20, l32_21, l32_22, l32_23, l32_24, l32_25, l32_26, l32_27, l32_28, l32_29, l32_33, l32_40, l32_41, l32_44, l32_45, l32_59, l32_61, l32_91, l32_93, l32_123, l32_125, za, zb, d, e, b1, l32_200]
  · rw [if_neg c]
    have d : ¬ 20 < r.length := fun z => c (Or.inl z)
    have e : r.length * r'.length ≤ 200 := Nat.not_lt.mp (fun z => c (Or.inr z))
    have E1 : mf_343 N (Int32.ofNat a) (Int32.ofNat b) (Int32.ofNat n) s = mf_343_L4 N N 0 (Int32.ofNat a) (Int32.ofNat b) (Int32.ofNat n) (Int32.ofNat 0) (Int32.ofNat 0) (Int32.ofNat 0) (mI s 51 (Int32.ofNat n)) := by
      unfold mf_343 mf_343_0 mf_343_5 mf_343_10 mf_343_15 mf_343_20 mf_343_37
      simp (disch := omega) only [ev_S, ev_P, ↓reduceIte, Nat.reduceEqDiff, Nat.reduceLeDiff, Nat.reduceAdd, Nat.reduceMul, Nat.reduceSub, reduceCtorEq, l32_0, l32_1, l32_2, l32_3, l32_4, l32_5, l32_6, l32_7, l32_8, l32_9, l32_10, l32_11, l32_12, l32_13, l32_14, l32_15, l32_16, l32_17, l32_18, l32_19, l32_20, l32_21, l32_22, l32_23, l32_24, l32_25, l32_26, l32_27, l32_28, l32_29, l32_33, l32_40, l32_41, l32_44, l32_45, l32_59, l32_61, l32_91, l32_93, l32_123, l32_125, za, zb, d, e, l32_200]
    rw [E1]
    have hle : ∀ i, i ≤ r.length → i * r'.length ≤ 200 := fun i hi => Nat.le_trans (Nat.mul_le_mul_right _ hi) e
    refine lpo (fun F i (s' : mS) => mf_343_L4 N F 0 (Int32.ofNat a) (Int32.ofNat b) (Int32.ofNat n) (Int32.ofNat i) (Int32.ofNat 0) (Int32.ofNat 0) s') r.length 67 (fun i s' => rG s s' n f (f + (2 * ((r.take i).map fun a => r'.map fun b => a * b).length + (((r.take i).map fun a => r'.map fun b => a * b).map List.length).sum)) (((r.take i).map fun a => r'.map fun b => a * b).map nR)) (fun R => ∃ s', R = some (s', none) ∧ rE s s' n f m (ansM 2 ((r.map fun a => r'.map fun b => a * b).map nR))) ?_ ?_ r.length 0 N _ (Nat.zero_add _) (by omega) G0
    · intro F i s2 hi G
      left
      have hl0 : ((r.take i).map fun a => r'.map fun b => a * b).length = i := len_take_map (by omega)
      have hll : (((r.take i).map fun a => r'.map fun b => a * b).map nR).length = i := by rw [List.length_map, hl0]
      have hsi : (((r.take i).map fun a => r'.map fun b => a * b).map List.length).sum ≤ 200 := by
        rw [out_sum, List.length_take, Nat.min_eq_left (by omega)]
        exact hle i (by omega)
      have zz := G.size (N := N) La (by omega)
      have zz : mf_77 N (Int32.ofNat a) s2 = some (s2, some (.int (Int32.ofNat r.length))) := zz
      have n1 : ¬ r.length ≤ i := by omega
      have sp := G.1.1
      rw [hll] at sp
      have E3 : mf_343_L4 N (F + 67) 0 (Int32.ofNat a) (Int32.ofNat b) (Int32.ofNat n) (Int32.ofNat i) (Int32.ofNat 0) (Int32.ofNat 0) s2 = mf_343_L4 N (F + 66) 1 (Int32.ofNat a) (Int32.ofNat b) (Int32.ofNat n) (Int32.ofNat i) (Int32.ofNat (n + i)) (Int32.ofNat 0) s2 := by
        show mf_343_45 N (mf_343_L4 N (F + 66)) (Int32.ofNat a) (Int32.ofNat b) (Int32.ofNat n) (Int32.ofNat i) s2 = _
        unfold mf_343_45 mf_343_52 mf_343_55
        simp (disch := omega) only [ev_S, ev_P, ↓reduceIte, Nat.reduceEqDiff, Nat.reduceLeDiff, Nat.reduceAdd, Nat.reduceMul, Nat.reduceSub, reduceCtorEq, l32_0, l32_1, l32_2, l32_3, l32_4, l32_5, l32_6, l32_7, l32_8, l32_9, l32_10, l32_11, l32_12, l32_13, l32_14, l32_15, l32_16, l32_17, l32_18, l32_19, l32_20, l32_21, l32_22, l32_23, l32_24, l32_25, l32_26, l32_27, l32_28, l32_29, l32_33, l32_40, l32_41, l32_44, l32_45, l32_59, l32_61, l32_91, l32_93, l32_123, l32_125, zz, n1, sp]
      rw [E3]
      rcases lpi (fun F j (s' : mS) => mf_343_L4 N F 1 (Int32.ofNat a) (Int32.ofNat b) (Int32.ofNat n) (Int32.ofNat i) (Int32.ofNat (n + i)) (Int32.ofNat j) s') r'.length (fun j s' => rG s s' n f (f + (2 * ((r.take i).map fun a => r'.map fun b => a * b).length + (((r.take i).map fun a => r'.map fun b => a * b).map List.length).sum)) (((r.take i).map fun a => r'.map fun b => a * b).map nR ++ ((r'.take j).map fun b => r[i] * b).map nZ)) (fun _ => False) (by
        intro F j s3 hj G3
        left
        have z3 := G3.size (N := N) Lb (by omega)
        have z3 : mf_77 N (Int32.ofNat b) s3 = some (s3, some (.int (Int32.ofNat r'.length))) := z3
        have c1 := G3.cell La hi
        have c2 := G3.cell Lb hj
        have n2 : ¬ r'.length ≤ j := by omega
        obtain ⟨s4, p1, p2⟩ := rG.pushZ (N := N) G3 (by rw [List.length_append, hll, List.length_map, len_take_map (by omega)]; omega) (r[i] * r'[j])
        refine ⟨s4, ?_, ?_⟩
        · rw [take_map_s hj, List.map_append, ← List.append_assoc]
          exact p2
        · show mf_343_64 N (mf_343_L4 N F) (Int32.ofNat a) (Int32.ofNat b) (Int32.ofNat n) (Int32.ofNat i) (Int32.ofNat (n + i)) (Int32.ofNat j) s3 = _
          unfold mf_343_64 mf_343_71 mf_343_74 mf_343_102
          simp (disch := omega) only [ev_S, ev_P, ↓reduceIte, Nat.reduceEqDiff, Nat.reduceLeDiff, Nat.reduceAdd, Nat.reduceMul, Nat.reduceSub, reduceCtorEq, l32_0, l32_1, l32_2, l32_3, l32_4, l32_5, l32_6, l32_7, l32_8, l32_9, l32_10, l32_11, l32_12, l32_13, l32_14, l32_15, l32_16, l32_17, l32_18, l32_19, l32_20, l32_21, l32_22, l32_23, l32_24, l32_25, l32_26, l32_27, l32_28, l32_29, l32_33, l32_40, l32_41, l32_44, l32_45, l32_59, l32_61, l32_91, l32_93, l32_123, l32_125, z3, n2, c1, c2, p1]) r'.length 0 (F + 66 - r'.length) s2 (Nat.zero_add _) (by rw [List.take_zero, List.map_nil, List.map_nil, List.append_nil]; exact G) with ⟨s3, G3, e3⟩ | h
      · rw [List.take_length] at G3
        rw [show F + 66 - r'.length + r'.length = F + 66 by omega] at e3
        have z3 := G3.size (N := N) Lb (by omega)
        have z3 : mf_77 N (Int32.ofNat b) s3 = some (s3, some (.int (Int32.ofNat r'.length))) := z3
        have hgl : (r'.map fun b => r[i] * b).length = r'.length := List.length_map _
        obtain ⟨s4, w1, w2⟩ := rG.row (N := N) hN G3 (by rw [hll, hgl]; omega) (by rw [hgl]; omega)
        rw [hll] at w1
        rw [hgl] at w2
        refine ⟨s4, F + 65 - r'.length, ?_, by omega, ?_⟩
        · rw [take_map_s hi, List.map_append, List.map_append, List.length_append, List.sum_append]
          have e : f + (2 * (((r.take i).map fun a => r'.map fun b => a * b).length + [r'.map fun b => r[i] * b].length) + ((((r.take i).map fun a => r'.map fun b => a * b).map List.length).sum + ([r'.map fun b => r[i] * b].map List.length).sum)) = f + (2 * ((r.take i).map fun a => r'.map fun b => a * b).length + (((r.take i).map fun a => r'.map fun b => a * b).map List.length).sum) + 2 + r'.length := by
            show f + (2 * (_ + 1) + (_ + ((r'.map fun b => r[i] * b).length + 0))) = _
            rw [hgl]
            omega
          rw [e]
          exact w2
        · show mf_343_L4 N (F + 66) 1 _ _ _ _ _ _ s2 = _
          rw [e3, show F + 66 - r'.length = F + 65 - r'.length + 1 by omega]
          show mf_343_64 N (mf_343_L4 N (F + 65 - r'.length)) (Int32.ofNat a) (Int32.ofNat b) (Int32.ofNat n) (Int32.ofNat i) (Int32.ofNat (n + i)) (Int32.ofNat r'.length) s3 = _
          unfold mf_343_64 mf_343_71 mf_343_108 mf_343_114
          simp (disch := omega) only [ev_S, ev_P, ↓reduceIte, Nat.reduceEqDiff, Nat.reduceLeDiff, Nat.reduceAdd, Nat.reduceMul, Nat.reduceSub, reduceCtorEq, l32_0, l32_1, l32_2, l32_3, l32_4, l32_5, l32_6, l32_7, l32_8, l32_9, l32_10, l32_11, l32_12, l32_13, l32_14, l32_15, l32_16, l32_17, l32_18, l32_19, l32_20, l32_21, l32_22, l32_23, l32_24, l32_25, l32_26, l32_27, l32_28, l32_29, l32_33, l32_40, l32_41, l32_44, l32_45, l32_59, l32_61, l32_91, l32_93, l32_123, l32_125, z3, w1]
      · exact h.elim
    · intro F s2 G
      rw [List.take_length] at G
      have hs := out_sum (q := r) (r' := r')
      have hlp : (r.map fun a => r'.map fun b => a * b).length = r.length := List.length_map _
      have zz := G.size (N := N) La (by omega)
      have zz : mf_77 N (Int32.ofNat a) s2 = some (s2, some (.int (Int32.ofNat r.length))) := zz
      obtain ⟨s3, b1, b2⟩ := rA.bTab (N := N) hN H G (fun p hp => by
        obtain ⟨q, -, rfl⟩ := List.mem_map.mp hp
        rw [List.length_map]
        exact hr') (by rw [hlp, hs]; omega) (by rw [hlp]; omega)
      refine ⟨s3, ?_, b2⟩
      show mf_343_45 N (mf_343_L4 N F) (Int32.ofNat a) (Int32.ofNat b) (Int32.ofNat n) (Int32.ofNat r.length) s2 = _
      unfold mf_343_45 mf_343_52 mf_343_120 mf_343_126
      simp (disch := omega) only [ev_S, ev_P, ↓reduceIte, Nat.reduceEqDiff, Nat.reduceLeDiff, Nat.reduceAdd, Nat.reduceMul, Nat.reduceSub, reduceCtorEq, l32_0, l32_1, l32_2, l32_3, l32_4, l32_5, l32_6, l32_7, l32_8, l32_9, l32_10, l32_11, l32_12, l32_13, l32_14, l32_15, l32_16, l32_17, l32_18, l32_19, l32_20, l32_21, l32_22, l32_23, l32_24, l32_25, l32_26, l32_27, l32_28, l32_29, l32_33, l32_40, l32_41, l32_44, l32_45, l32_59, l32_61, l32_91, l32_93, l32_123, l32_125, zz, b1]
end PFO
