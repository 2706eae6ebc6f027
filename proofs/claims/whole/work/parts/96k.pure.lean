/-! ===== PURE: run (38): size, widths, kind, back, sum, max, min: the reference ===== -/
def dgS (b : Nat) (v w : Int32) : Int32 := if b = 9 then v + w else if b = 10 then (if v < w then w else v) else (if w < v then w else v)
def dgR (b : Nat) (r : List Int32) : Int32 := r.foldl (dgS b) (if b = 9 then 0 else r.headD 0)
def ansD (b : Nat) (x : Nod) : Ans := if kn x = 0 then .inr (nZ (ivN x)) else if kn x = 1 then (if b > 9 ∧ rvN x = [] then .inl 5 else .inr (nZ (dgR b (rvN x)))) else if b > 9 ∧ ((tvN x).any fun r => r.isEmpty) = true then .inl 5 else ansM 1 (((tvN x).map (dgR b)).map nZ)
section OOT
variable {N : Nat} {s s' : mS} {n f f' m a b : Nat} {x : Nod} {ys xs : List Nod} {xv : Int32} {r : List Int32}
theorem foldl_take {α β : Type} {l : List α} {g : β → α → β} {c : β} {i : Nat} (hi : i < l.length) : (l.take (i + 1)).foldl g c = g ((l.take i).foldl g c) l[i] := by
  rw [List.take_succ_eq_append_getElem hi, List.foldl_append]
  rfl
theorem r_red (hN : 170000 ≤ N) (hb : b = 9 ∨ b = 10 ∨ b = 11) (L : LayN (s.2.2.1 47) (Rf f) a (nR r)) (hf : f ≤ 166000) (h0 : b = 9 ∨ ¬ r = []) (hr : r.length ≤ 64) : mf_331 N (Int32.ofNat b) (Int32.ofNat a) s = some (s, some (.int (dgR b r))) := by
  have hlt := rowlt L
  have cell : ∀ i (hi : i < r.length), s.2.2.1 47 (a + 2 + i) = r[i] := ((LayN_iff.mp L).2).2.2
  have zz := r_size (N := N) (s := s) (LayN_iff.mp L).2 (Nat.le_trans (LayN.lt L).1 (by omega))
  have zz : mf_77 N (Int32.ofNat a) s = some (s, some (.int (Int32.ofNat r.length))) := zz
  have E1 : mf_331 N (Int32.ofNat b) (Int32.ofNat a) s = mf_331_L1 N N 0 (Int32.ofNat b) (Int32.ofNat a) (if b = 9 then 0 else r.headD 0) (Int32.ofNat 0) s := by
    by_cases c : b = 9
    · rw [if_pos c, c]
      repeat ((first | unfold mf_331 | unfold mf_331_0 | unfold mf_331_6 | unfold mf_331_10 | unfold mf_331_18 | unfold mf_331_22 | unfold mf_331_29 | unfold mf_331_32 | unfold mf_331_51 | unfold mf_331_59 | unfold mf_331_65 | unfold mf_331_71 | unfold mf_331_74 | unfold mf_331_80 | unfold mf_331_83 | unfold mf_331_89); try simp (disch := omega) only [ev_S, ev_P, ↓reduceIte, Nat.reduceEqDiff, Nat.reduceLeDiff, Nat.reduceAdd, Nat.reduceMul, Nat.reduceSub, reduceCtorEq, l32_0, l32_1, l32_2, l32_3, l32_4, l32_9, l32_10, l32_47, l32_166300])
    · rw [if_neg c]
      have hr0 : 0 < r.length := List.length_pos_iff.mpr (h0.resolve_left c)
      have c0 := cell 0 hr0
      have c0 : s.2.2.1 47 (a + 2) = r[0] := c0
      have eh : r.headD 0 = r[0] := by
        cases r with
        | nil => exact absurd hr0 (Nat.not_lt_zero _)
        | cons z r => rfl
      rw [eh]
      have c9 : ¬ b = 9 := c
      unfold mf_331 mf_331_0 mf_331_10 mf_331_18
      simp (disch := omega) only [ev_S, ev_P, ↓reduceIte, Nat.reduceEqDiff, Nat.reduceLeDiff, Nat.reduceAdd, Nat.reduceMul, Nat.reduceSub, reduceCtorEq, l32_0, l32_1, l32_2, l32_3, l32_4, l32_5, l32_6, l32_7, l32_8, l32_9, l32_10, l32_11, l32_12, l32_13, l32_14, l32_15, l32_16, l32_17, l32_18, l32_19, l32_20, l32_21, l32_22, l32_23, l32_24, l32_25, l32_26, l32_27, l32_28, l32_29, l32_33, l32_40, l32_41, l32_44, l32_45, l32_59, l32_61, l32_91, l32_93, l32_123, l32_125, c9, c0]
  rw [E1]
  refine lp (fun F i (v : Int32) => mf_331_L1 N F 0 (Int32.ofNat b) (Int32.ofNat a) v (Int32.ofNat i) s) r.length (fun i v => v = (r.take i).foldl (dgS b) (if b = 9 then 0 else r.headD 0)) (fun R => R = some (s, some (.int (dgR b r)))) ?_ ?_ r.length 0 N _ (Nat.zero_add _) (by omega) rfl
  · intro F i v hi hP _
    left
    have n1 : ¬ r.length ≤ i := by omega
    have cc := cell i hi
    refine ⟨dgS b v r[i], by rw [foldl_take hi, hP], ?_⟩
    show mf_331_22 N (mf_331_L1 N F) (Int32.ofNat b) (Int32.ofNat a) v (Int32.ofNat i) s = _
    unfold dgS
    rcases hb with rfl | rfl | rfl
    · rw [if_pos rfl]
      unfold mf_331_22 mf_331_29 mf_331_32 mf_331_51 mf_331_83
      simp (disch := omega) only [ev_S, ev_P, ↓reduceIte, Nat.reduceEqDiff, Nat.reduceLeDiff, Nat.reduceAdd, Nat.reduceMul, Nat.reduceSub, reduceCtorEq, l32_0, l32_1, l32_2, l32_3, l32_4, l32_5, l32_6, l32_7, l32_8, l32_9, l32_10, l32_11, l32_12, l32_13, l32_14, l32_15, l32_16, l32_17, l32_18, l32_19, l32_20, l32_21, l32_22, l32_23, l32_24, l32_25, l32_26, l32_27, l32_28, l32_29, l32_33, l32_40, l32_41, l32_44, l32_45, l32_59, l32_61, l32_91, l32_93, l32_123, l32_125, zz, n1, cc]
    · rw [if_neg (by omega), if_pos rfl]
      by_cases c : v < r[i]
      · rw [if_pos c]
        have c' : ¬ r[i] ≤ v := Int32.not_le.mpr c
        unfold mf_331_22 mf_331_29 mf_331_32 mf_331_59 mf_331_65 mf_331_71 mf_331_80 mf_331_83
        simp (disch := omega) only [ev_S, ev_P, ↓reduceIte, Nat.reduceEqDiff, Nat.reduceLeDiff, Nat.reduceAdd, Nat.reduceMul, Nat.reduceSub, reduceCtorEq, l32_0, l32_1, l32_2, l32_3, l32_4, l32_5, l32_6, l32_7, l32_8, l32_9, l32_10, l32_11, l32_12, l32_13, l32_14, l32_15, l32_16, l32_17, l32_18, l32_19, l32_20, l32_21, l32_22, l32_23, l32_24, l32_25, l32_26, l32_27, l32_28, l32_29, l32_33, l32_40, l32_41, l32_44, l32_45, l32_59, l32_61, l32_91, l32_93, l32_123, l32_125, zz, n1, cc, c']
      · rw [if_neg c]
        have c' : r[i] ≤ v := Int32.not_lt.mp c
        unfold mf_331_22 mf_331_29 mf_331_32 mf_331_59 mf_331_65 mf_331_83
        simp (disch := omega) only [ev_S, ev_P, ↓reduceIte, Nat.reduceEqDiff, Nat.reduceLeDiff, Nat.reduceAdd, Nat.reduceMul, Nat.reduceSub, reduceCtorEq, l32_0, l32_1, l32_2, l32_3, l32_4, l32_5, l32_6, l32_7, l32_8, l32_9, l32_10, l32_11, l32_12, l32_13, l32_14, l32_15, l32_16, l32_17, l32_18, l32_19, l32_20, l32_21, l32_22, l32_23, l32_24, l32_25, l32_26, l32_27, l32_28, l32_29, l32_33, l32_40, l32_41, l32_44, l32_45, l32_59, l32_61, l32_91, l32_93, l32_123, l32_125, zz, n1, cc, c']
    · rw [if_neg (by omega), if_neg (by omega)]
      by_cases c : r[i] < v
      · rw [if_pos c]
        have c' : ¬ v ≤ r[i] := Int32.not_le.mpr c
        unfold mf_331_22 mf_331_29 mf_331_32 mf_331_59 mf_331_74 mf_331_80 mf_331_83
        simp (disch := omega) only [ev_S, ev_P, ↓reduceIte, Nat.reduceEqDiff, Nat.reduceLeDiff, Nat.reduceAdd, Nat.reduceMul, Nat.reduceSub, reduceCtorEq, l32_0, l32_1, l32_2, l32_3, l32_4, l32_5, l32_6, l32_7, l32_8, l32_9, l32_10, l32_11, l32_12, l32_13, l32_14, l32_15, l32_16, l32_17, l32_18, l32_19, l32_20, l32_21, l32_22, l32_23, l32_24, l32_25, l32_26, l32_27, l32_28, l32_29, l32_33, l32_40, l32_41, l32_44, l32_45, l32_59, l32_61, l32_91, l32_93, l32_123, l32_125, zz, n1, cc, c']
      · rw [if_neg c]
        have c' : v ≤ r[i] := Int32.not_lt.mp c
        unfold mf_331_22 mf_331_29 mf_331_32 mf_331_59 mf_331_74 mf_331_83
        simp (disch := omega) only [ev_S, ev_P, ↓reduceIte, Nat.reduceEqDiff, Nat.reduceLeDiff, Nat.reduceAdd, Nat.reduceMul, Nat.reduceSub, reduceCtorEq, l32_0, l32_1, l32_2, l32_3, l32_4, l32_5, l32_6, l32_7, l32_8, l32_9, l32_10, l32_11, l32_12, l32_13, l32_14, l32_15, l32_16, l32_17, l32_18, l32_19, l32_20, l32_21, l32_22, l32_23, l32_24, l32_25, l32_26, l32_27, l32_28, l32_29, l32_33, l32_40, l32_41, l32_44, l32_45, l32_59, l32_61, l32_91, l32_93, l32_123, l32_125, zz, n1, cc, c']
  · intro F v hP
    rw [List.take_length] at hP
    rw [hP]
    show mf_331_22 N (mf_331_L1 N F) (Int32.ofNat b) (Int32.ofNat a) _ (Int32.ofNat r.length) s = _
    unfold mf_331_22 mf_331_29 mf_331_89
    simp (disch := omega) only [ev_S, ev_P, ↓reduceIte, Nat.reduceEqDiff, Nat.reduceLeDiff, Nat.reduceAdd, Nat.reduceMul, Nat.reduceSub, reduceCtorEq, l32_0, l32_1, l32_2, l32_3, l32_4, l32_5, l32_6, l32_7, l32_8, l32_9, l32_10, l32_11, l32_12, l32_13, l32_14, l32_15, l32_16, l32_17, l32_18, l32_19, l32_20, l32_21, l32_22, l32_23, l32_24, l32_25, l32_26, l32_27, l32_28, l32_29, l32_33, l32_40, l32_41, l32_44, l32_45, l32_59, l32_61, l32_91, l32_93, l32_123, l32_125, zz]
    rfl
theorem r_oneA (hN : 170000 ≤ N) (H : rA s n f m ys) (hx : rvl (s.2.2.1 47) f (s.2.2.1 49 n) xv x) (hxv : s.2.2.1 50 n = xv) (wx : wfN x) (dx : x.1 ≤ 4) : (¬ kn x = 0 → ∃ s', mf_333 N (Int32.ofNat 6) xv (Int32.ofNat n) s = some (s', none) ∧ rE s s' n f m (.inr (nZ (Int32.ofNat (szN x))))) ∧ (∃ s', mf_333 N (Int32.ofNat 8) xv (Int32.ofNat n) s = some (s', none) ∧ rE s s' n f m (.inr (nZ (Int32.ofNat (kn x))))) ∧ (kn x = 2 → ∃ s', mf_333 N (Int32.ofNat 7) xv (Int32.ofNat n) s = some (s', none) ∧ rE s s' n f m (ansM 1 (((tvN x).map fun r => Int32.ofNat r.length).map nZ))) ∧ (¬ kn x = 0 → ∃ s', mf_333 N (Int32.ofNat 15) xv (Int32.ofNat n) s = some (s', none) ∧ rE s s' n f m (ansM (kn x) (pts x).reverse)) := by
  have H' := H
  obtain ⟨-, H2, H3, H4, H5, H6, H7, H8, H9, H10⟩ := H'
  have hx' : rvl (s.2.2.1 47) f (s.2.2.1 49 n) (s.2.2.1 50 n) x := by rw [hxv]; exact hx
  have kx := r_kindAt (N := N) hx' (by omega) (by omega)
  rw [kd_kn] at kx
  have lx := kn_le (x := x)
  have G0 : rG s (mI s 51 (Int32.ofNat n)) n f f [] := rG.nil H2
  obtain ⟨s1, hs1⟩ : ∃ s1, s1 = mI s 51 (Int32.ofNat n) := ⟨_, rfl⟩
  rw [← hs1] at G0
  refine ⟨fun c0 => ?_, ?_, fun c2 => ?_, fun c0 => ?_⟩
  · obtain ⟨-, a, ea, La⟩ := hx.th c0
    have zz := G0.size (N := N) La (by omega)
    obtain ⟨s2, p1, p2⟩ := rG.pushZ (N := N) G0 (by show n + 0 < 9000; omega) (Int32.ofNat (szN x))
    refine ⟨s2, ?_, rG.int H p2 rfl⟩
    rw [hs1] at zz p1
    rw [ea]
    unfold mf_333 mf_333_0 mf_333_5 mf_333_18 mf_333_25 mf_333_28 mf_333_289
    simp (disch := omega) only [ev_S, ev_P, ↓reduceIte, Nat.reduceEqDiff, Nat.reduceLeDiff, Nat.reduceAdd, Nat.reduceMul, Nat.reduceSub, reduceCtorEq, l32_0, l32_1, l32_2, l32_3, l32_4, l32_5, l32_6, l32_7, l32_8, l32_9, l32_10, l32_11, l32_12, l32_13, l32_14, l32_15, l32_16, l32_17, l32_18, l32_19, l32_20, l32_21, l32_22, l32_23, l32_24, l32_25, l32_26, l32_27, l32_28, l32_29, l32_33, l32_40, l32_41, l32_44, l32_45, l32_59, l32_61, l32_91, l32_93, l32_123, l32_125, kx, zz, p1]
  · obtain ⟨s2, p1, p2⟩ := rG.pushZ (N := N) G0 (by show n + 0 < 9000; omega) (Int32.ofNat (kn x))
    refine ⟨s2, ?_, rG.int H p2 rfl⟩
    rw [hs1] at p1
    unfold mf_333 mf_333_0 mf_333_5 mf_333_31 mf_333_37 mf_333_44 mf_333_289
    simp (disch := omega) only [ev_S, ev_P, ↓reduceIte, Nat.reduceEqDiff, Nat.reduceLeDiff, Nat.reduceAdd, Nat.reduceMul, Nat.reduceSub, reduceCtorEq, l32_0, l32_1, l32_2, l32_3, l32_4, l32_5, l32_6, l32_7, l32_8, l32_9, l32_10, l32_11, l32_12, l32_13, l32_14, l32_15, l32_16, l32_17, l32_18, l32_19, l32_20, l32_21, l32_22, l32_23, l32_24, l32_25, l32_26, l32_27, l32_28, l32_29, l32_33, l32_40, l32_41, l32_44, l32_45, l32_59, l32_61, l32_91, l32_93, l32_123, l32_125, kx, p1]
  · obtain ⟨-, a, ea, La⟩ := hx.th (by omega)
    have tw := tv_wf c2 wx
    have esz := kn2_sz c2
    have PT := fun i (hi : i < (tvN x).length) s2 fx xs (G : rG s s2 n f fx xs) => rG.partT (N := N) G La (by omega) c2 hi
    rw [ea]
    generalize tvN x = q at *
    have E1 : mf_333 N (Int32.ofNat 7) (Int32.ofNat a) (Int32.ofNat n) s = mf_333_L29 N N 0 (Int32.ofNat a) (Int32.ofNat n) (Int32.ofNat 0) s1 := by
      rw [hs1]
      unfold mf_333 mf_333_0 mf_333_5 mf_333_31 mf_333_47 mf_333_53
      simp (disch := omega) only [ev_S, ev_P, ↓reduceIte, Nat.reduceEqDiff, Nat.reduceLeDiff, Nat.reduceAdd, Nat.reduceMul, Nat.reduceSub, reduceCtorEq, l32_0, l32_1, l32_2, l32_3, l32_4, l32_5, l32_6, l32_7, l32_8, l32_9, l32_10, l32_11, l32_12, l32_13, l32_14, l32_15, l32_16, l32_17, l32_18, l32_19, l32_20, l32_21, l32_22, l32_23, l32_24, l32_25, l32_26, l32_27, l32_28, l32_29, l32_33, l32_40, l32_41, l32_44, l32_45, l32_59, l32_61, l32_91, l32_93, l32_123, l32_125, kx]
    rw [E1]
    refine lp (fun F i (s' : mS) => mf_333_L29 N F 0 (Int32.ofNat a) (Int32.ofNat n) (Int32.ofNat i) s') q.length (fun i s' => rG s s' n f f (((q.take i).map fun r => Int32.ofNat r.length).map nZ)) (fun R => ∃ s', R = some (s', none) ∧ rE s s' n f m (ansM 1 ((q.map fun r => Int32.ofNat r.length).map nZ))) ?_ ?_ q.length 0 N s1 (Nat.zero_add _) (by omega) G0
    · intro F i s2 hi G _
      left
      have zz := G.size (N := N) La (by omega)
      rw [esz] at zz
      have n1 : ¬ q.length ≤ i := by omega
      obtain ⟨c, d1, d2⟩ := PT i hi s2 _ _ G
      have z3 := G.size (N := N) d2 (by omega)
      have z3 : mf_77 N (Int32.ofNat c) s2 = some (s2, some (.int (Int32.ofNat q[i].length))) := z3
      have hll : (((q.take i).map fun r => Int32.ofNat r.length).map nZ).length = i := by rw [List.length_map, len_take_map (by omega)]
      obtain ⟨s3, p1, p2⟩ := rG.pushZ (N := N) G (by rw [hll]; omega) (Int32.ofNat q[i].length)
      refine ⟨s3, ?_, ?_⟩
      · rw [take_map_s hi, List.map_append]
        exact p2
      · show mf_333_56 N (mf_333_L29 N F) (Int32.ofNat a) (Int32.ofNat n) (Int32.ofNat i) s2 = _
        unfold mf_333_56 mf_333_63 mf_333_66 mf_333_76 mf_333_79 mf_333_82
        simp (disch := omega) only [ev_S, ev_P, ↓reduceIte, Nat.reduceEqDiff, Nat.reduceLeDiff, Nat.reduceAdd, Nat.reduceMul, Nat.reduceSub, reduceCtorEq, l32_0, l32_1, l32_2, l32_3, l32_4, l32_5, l32_6, l32_7, l32_8, l32_9, l32_10, l32_11, l32_12, l32_13, l32_14, l32_15, l32_16, l32_17, l32_18, l32_19, l32_20, l32_21, l32_22, l32_23, l32_24, l32_25, l32_26, l32_27, l32_28, l32_29, l32_33, l32_40, l32_41, l32_44, l32_45, l32_59, l32_61, l32_91, l32_93, l32_123, l32_125, zz, n1, d1, z3, p1]
    · intro F s2 G
      rw [List.take_length] at G
      have zz := G.size (N := N) La (by omega)
      rw [esz] at zz
      obtain ⟨s3, b1, b2⟩ := rA.bRow (N := N) hN H G (by rw [List.length_map]; omega) (by rw [List.length_map]; omega)
      refine ⟨s3, ?_, b2⟩
      show mf_333_56 N (mf_333_L29 N F) (Int32.ofNat a) (Int32.ofNat n) (Int32.ofNat q.length) s2 = _
      unfold mf_333_56 mf_333_63 mf_333_88 mf_333_94 mf_333_289
      simp (disch := omega) only [ev_S, ev_P, ↓reduceIte, Nat.reduceEqDiff, Nat.reduceLeDiff, Nat.reduceAdd, Nat.reduceMul, Nat.reduceSub, reduceCtorEq, l32_0, l32_1, l32_2, l32_3, l32_4, l32_5, l32_6, l32_7, l32_8, l32_9, l32_10, l32_11, l32_12, l32_13, l32_14, l32_15, l32_16, l32_17, l32_18, l32_19, l32_20, l32_21, l32_22, l32_23, l32_24, l32_25, l32_26, l32_27, l32_28, l32_29, l32_33, l32_40, l32_41, l32_44, l32_45, l32_59, l32_61, l32_91, l32_93, l32_123, l32_125, zz, b1]
  · obtain ⟨-, a, ea, La⟩ := hx.th c0
    have zz := G0.size (N := N) La (by omega)
    have hpl : (pts x).length = szN x := pts_len
    have s64 := wf64 wx
    rw [ea]
    -- the place stands one behind the part that is next
    have hlast : ∀ F (s2 : mS), rG s s2 n f f (pts x).reverse → ∃ s', mf_333_L23 N (F + 1) 0 (Int32.ofNat a) (Int32.ofNat n) (Int32.ofNat (kn x)) (-Int32.ofNat 1) s2 = some (s', none) ∧ rE s s' n f m (ansM (kn x) (pts x).reverse) := fun F s2 G => by
      have hmem : ∀ y ∈ (pts x).reverse, y ∈ pts x := fun y hy => List.mem_reverse.mp hy
      obtain ⟨s3, b1, b2⟩ := rA.builds (N := N) (k := kn x) hN H G (pts_ok c0 hmem) (fun y hy => wf_pts wx y (hmem y hy)) (fun y hy => Nat.le_trans (pts_lv y (hmem y hy)) dx) (by omega) (by omega) (by rw [List.length_reverse]; omega) (by rw [List.length_reverse]; omega)
      refine ⟨s3, ?_, b2⟩
      show mf_333_112 N (mf_333_L23 N F) (Int32.ofNat a) (Int32.ofNat n) (Int32.ofNat (kn x)) (-Int32.ofNat 1) s2 = _
      generalize kn x = kx' at *
      unfold mf_333_112
      rw [if_pos (by decide)]
      unfold mf_333_130 mf_333_137 mf_333_289
      simp (disch := omega) only [ev_S, ev_P, ↓reduceIte, Nat.reduceEqDiff, Nat.reduceLeDiff, Nat.reduceAdd, Nat.reduceMul, Nat.reduceSub, reduceCtorEq, l32_0, l32_1, l32_2, l32_3, l32_4, l32_5, l32_6, l32_7, l32_8, l32_9, l32_10, l32_11, l32_12, l32_13, l32_14, l32_15, l32_16, l32_17, l32_18, l32_19, l32_20, l32_21, l32_22, l32_23, l32_24, l32_25, l32_26, l32_27, l32_28, l32_29, l32_33, l32_40, l32_41, l32_44, l32_45, l32_59, l32_61, l32_91, l32_93, l32_123, l32_125, b1]
    have hpre : ∀ i, i ≤ (pts x).length → ((pts x).drop i).reverse.length = (pts x).length - i := fun i hi => by rw [List.length_reverse, List.length_drop]
    have st : ∀ F i (s2 : mS), i < (pts x).length → rG s s2 n f f ((pts x).drop (i + 1)).reverse → ∃ s3, mf_333_L23 N (F + 1) 0 (Int32.ofNat a) (Int32.ofNat n) (Int32.ofNat (kn x)) (Int32.ofNat i) s2 = mf_333_L23 N F 0 (Int32.ofNat a) (Int32.ofNat n) (Int32.ofNat (kn x)) (Int32.ofNat i - Int32.ofNat 1) s3 ∧ rG s s3 n f f ((pts x).drop i).reverse := fun F i s2 hi G => by
      obtain ⟨s3, d1, d2⟩ := rG.elem (N := N) (i := i) G (by rw [hpre _ (by omega)]; omega) (by omega) La hi
      refine ⟨s3, ?_, ?_⟩
      · show mf_333_112 N (mf_333_L23 N F) (Int32.ofNat a) (Int32.ofNat n) (Int32.ofNat (kn x)) (Int32.ofNat i) s2 = _
        have e : Int32.ofNat i + (-1) = Int32.ofNat i - Int32.ofNat 1 := (Int32.sub_eq_add_neg _ _).symm
        unfold mf_333_112
        rw [if_neg (i32n (by omega))]
        unfold mf_333_117 mf_333_124
        rw [d1, e]
        rfl
      · rw [List.drop_eq_getElem_cons hi, List.reverse_cons]
        exact d2
    have E1 : mf_333 N (Int32.ofNat 15) (Int32.ofNat a) (Int32.ofNat n) s = mf_333_L23 N N 0 (Int32.ofNat a) (Int32.ofNat n) (Int32.ofNat (kn x)) (Int32.ofNat (szN x) - Int32.ofNat 1) s1 := by
      rw [hs1] at zz ⊢
      unfold mf_333 mf_333_0 mf_333_5 mf_333_31 mf_333_47 mf_333_97 mf_333_103 mf_333_108
      generalize kn x = kx' at *
      have kx : mf_292 N (Int32.ofNat n) s = some (s, some (.int (Int32.ofNat kx'))) := kx
      simp only [kx, ev_S, ev_P, l32_6, l32_7, l32_8, l32_15, l32_1, zz, Nat.reduceEqDiff, if_true, if_false]
      rfl
    rw [E1, ← hpl]
    have all : ∀ i F (s2 : mS), i ≤ (pts x).length → i < F → rG s s2 n f f ((pts x).drop i).reverse → ∃ s', mf_333_L23 N F 0 (Int32.ofNat a) (Int32.ofNat n) (Int32.ofNat (kn x)) (Int32.ofNat i - Int32.ofNat 1) s2 = some (s', none) ∧ rE s s' n f m (ansM (kn x) (pts x).reverse) := fun i => by
      induction i with
      | zero =>
        intro F s2 hi hF G
        obtain ⟨F1, rfl⟩ : ∃ F1, F = F1 + 1 := ⟨F - 1, by omega⟩
        exact hlast F1 s2 G
      | succ i ih =>
        intro F s2 hi hF G
        obtain ⟨F1, rfl⟩ : ∃ F1, F = F1 + 1 := ⟨F - 1, by omega⟩
        have e : Int32.ofNat (i + 1) - Int32.ofNat 1 = Int32.ofNat i := by
          rw [Int32.ofNat_add]
          exact Int32.add_sub_cancel _ _
        obtain ⟨s3, c1, c2⟩ := st F1 i s2 (by omega) G
        rw [e, c1]
        exact ih F1 s3 (by omega) (by omega) c2
    exact all (pts x).length N s1 (Nat.le_refl _) (by omega) (by rw [List.drop_length]; exact G0)
end OOT
