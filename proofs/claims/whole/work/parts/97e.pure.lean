/-! ===== PURE: run (58): take, drop: the class ===== -/
theorem i64lt0 {a b : Int64} : a < b ↔ a.toInt < b.toInt := Int64.lt_iff_toInt_lt
theorem i64add_t {a b : Int64} (h1 : -9000000000 ≤ a.toInt) (h2 : a.toInt ≤ 9000000000) (h3 : -9000000000 ≤ b.toInt) (h4 : b.toInt ≤ 9000000000) : (a + b).toInt = a.toInt + b.toInt := by
  rw [Int64.toInt_add]
  have e6 : (2 : Nat) ^ 64 = 18446744073709551616 := by decide
  rw [e6]
  exact Int.bmod_eq_of_le (by omega) (by omega)
theorem z64_b (z : Int32) : -2147483648 ≤ (Int32.toInt64 z).toInt ∧ (Int32.toInt64 z).toInt ≤ 2147483647 := by
  rw [Int32.toInt_toInt64]
  have h1 := Int32.toInt_lt z
  have h2 := Int32.le_toInt z
  have e : (2 : Int) ^ 31 = 2147483648 := by decide
  omega
theorem i64z : (0 : Int64).toInt = 0 := by decide
theorem abs64 (z : Int32) : (if 0 < Int32.toInt64 z then Int32.toInt64 z else -Int32.toInt64 z) = Int64.ofNat (wN z) := by
  by_cases c : z < 0
  · rw [if_neg (fun q => by
      rw [i64lt0, i64z, Int32.toInt_toInt64] at q
      have := i32m c
      omega), neg64 c]
  · by_cases d : 0 < Int32.toInt64 z
    · rw [if_pos d, pos64 c]
    · rw [if_neg d]
      have e : Int32.toInt64 z = 0 := by
        refine Int64.toInt.inj ?_
        rw [i64lt0, i64z] at d
        have h0 : ¬ z.toInt < 0 := fun q => c (Int32.lt_iff_toInt_lt.mpr q)
        rw [Int32.toInt_toInt64] at d ⊢
        rw [i64z]
        omega
      have e2 := pos64 c
      rw [← e2, e]
      rfl
theorem dr1 {z : Int32} {S : Nat} (hS : S ≤ 64) : Int64.toInt32 (if (if 0 < Int32.toInt64 z then Int32.toInt64 z else 0) < Int32.toInt64 (Int32.ofNat S) then (if 0 < Int32.toInt64 z then Int32.toInt64 z else 0) else Int32.toInt64 (Int32.ofNat S)) = Int32.ofNat (if z < 0 then 0 else Nat.min (wN z) S) := by
  have hW := wN_le z
  have es : Int32.toInt64 (Int32.ofNat S) = Int64.ofNat S := i64of32 (by omega)
  by_cases c : z < 0
  · have e : (if 0 < Int32.toInt64 z then Int32.toInt64 z else 0) = 0 := if_neg (fun q => by
      rw [i64lt0, i64z, Int32.toInt_toInt64] at q
      have := i32m c
      omega)
    rw [e, if_pos c]
    by_cases d : 0 < Int32.toInt64 (Int32.ofNat S)
    · rw [if_pos d]
      rfl
    · rw [if_neg d, i64_32]
      rw [es, i64lt0, i64z, i64t (by omega)] at d
      congr 1
      omega
  · have hz := pos64 c
    have e : (if 0 < Int32.toInt64 z then Int32.toInt64 z else 0) = Int64.ofNat (wN z) := by
      have a := abs64 z
      by_cases d : 0 < Int32.toInt64 z
      · rw [if_pos d] at a ⊢
        exact a
      · rw [if_neg d]
        rw [hz, i64lt0, i64z, i64t (by omega)] at d
        have h0 : wN z = 0 := by omega
        rw [h0]
        rfl
    rw [e, if_neg c, es]
    have hl := i64lt (a := wN z) (b := S) (by omega) (by omega)
    by_cases d : wN z < S
    · rw [if_pos (hl.mpr d), t32 (by omega)]
      congr 1
      exact (Nat.min_eq_left (by omega)).symm
    · rw [if_neg (fun q => d (hl.mp q)), t32 (by omega)]
      congr 1
      exact (Nat.min_eq_right (by omega)).symm
theorem dr2 {z : Int32} {S : Nat} (hS : S ≤ 64) : Int64.toInt32 (if Int32.toInt64 (Int32.ofNat S) + (if 0 < Int32.toInt64 z then 0 else Int32.toInt64 z) < 0 then 0 else Int32.toInt64 (Int32.ofNat S) + (if 0 < Int32.toInt64 z then 0 else Int32.toInt64 z)) = Int32.ofNat (if z < 0 then S - wN z else S) := by
  have hW := wN_le z
  have es : Int32.toInt64 (Int32.ofNat S) = Int64.ofNat S := i64of32 (by omega)
  by_cases c : z < 0
  · have hm := i32m c
    have hw : (wN z : Int) = -z.toInt := by
      unfold wN
      omega
    have e : (if 0 < Int32.toInt64 z then 0 else Int32.toInt64 z) = Int32.toInt64 z := if_neg (fun q => by
      rw [i64lt0, i64z, Int32.toInt_toInt64] at q
      omega)
    have zb := z64_b z
    have st : (Int32.toInt64 (Int32.ofNat S) + Int32.toInt64 z).toInt = (S : Int) - wN z := by
      rw [i64add_t (by rw [es, i64t (by omega)]; omega) (by rw [es, i64t (by omega)]; omega) (by omega) (by omega), es, i64t (by omega), Int32.toInt_toInt64, hw]
      omega
    rw [e, if_pos c]
    by_cases d : wN z ≤ S
    · have hnn : ¬ Int32.toInt64 (Int32.ofNat S) + Int32.toInt64 z < 0 := fun q => by
        rw [i64lt0, i64z, st] at q
        omega
      rw [if_neg hnn]
      have e2 : Int32.toInt64 (Int32.ofNat S) + Int32.toInt64 z = Int64.ofNat (S - wN z) := by
        refine Int64.toInt.inj ?_
        rw [st, i64t (by omega)]
        omega
      rw [e2, t32 (by omega)]
    · have hnn : Int32.toInt64 (Int32.ofNat S) + Int32.toInt64 z < 0 := by
        rw [i64lt0, i64z, st]
        omega
      rw [if_pos hnn, show S - wN z = 0 by omega]
      rfl
  · have e : (if 0 < Int32.toInt64 z then 0 else Int32.toInt64 z) = 0 := by
      by_cases d : 0 < Int32.toInt64 z
      · rw [if_pos d]
      · rw [if_neg d]
        refine Int64.toInt.inj ?_
        rw [i64lt0, i64z] at d
        have h0 : ¬ z.toInt < 0 := fun q => c (Int32.lt_iff_toInt_lt.mpr q)
        rw [Int32.toInt_toInt64] at d ⊢
        rw [i64z]
        omega
    rw [e, if_neg c, Int64.add_zero, if_neg (fun q => by
      rw [es, i64lt0, i64z, i64t (by omega)] at q
      omega), i64_32]
section TDC
variable {N : Nat} {X : Nat → Option zz_C} {t t' : cS} {u u' w o e : Nat} {x y : Nod} {vx vy v : Int64} {xs : List Nod} {z : Int32}
theorem cG.all (hN : 170000 ≤ N) (G : cG t t' u u' w xs) (hx : cN (cel t) u vx x) (wx : wfN x) (ho : o ≤ e) (he : e ≤ (pts x).length) (hw : w + xs.length + 70 < 61000) : ∃ t2, cf_124 N X vx (Int32.ofNat o) (Int32.ofNat e) t' = some (t2, .inl none) ∧ cG t t2 u u' w (xs ++ ((pts x).drop o).take (e - o)) := by
  have s64 := sz64 wx
  have hlk : ∀ j, j ≤ e - o → (((pts x).drop o).take j).length = j := fun j hj => by
    rw [List.length_take, List.length_drop]
    omega
  have E1 : cf_124 N X vx (Int32.ofNat o) (Int32.ofNat e) t' = cf_124_L1 N X N 0 vx (Int32.ofNat e) (Int32.ofNat (o + 0)) t' := rfl
  rw [E1]
  refine lp (fun F j (t1 : cS) => cf_124_L1 N X F 0 vx (Int32.ofNat e) (Int32.ofNat (o + j)) t1) (e - o) (fun j t1 => cG t t1 u u' w (xs ++ ((pts x).drop o).take j)) (fun R => ∃ t2, R = some (t2, .inl none) ∧ cG t t2 u u' w (xs ++ ((pts x).drop o).take (e - o))) ?_ ?_ (e - o) 0 N t' (Nat.zero_add _) (by omega) (by rw [List.take_zero, List.append_nil]; exact G)
  · intro F j t1 hj G1 _
    left
    have n1 : ¬ e ≤ o + j := by omega
    obtain ⟨v', d1, d2⟩ := c_part (N := N) (X := X) G1.c (G1.up hx) (i := o + j) (by omega)
    obtain ⟨t2, p1, p2⟩ := cG.put (N := N) (X := X) G1 (by rw [List.length_append, hlk j (by omega)]; omega) d2
    refine ⟨t2, ?_, ?_⟩
    · have hjd : j < ((pts x).drop o).length := by rw [List.length_drop]; omega
      rw [List.take_succ_eq_append_getElem hjd, ← List.append_assoc, List.getElem_drop]
      exact p2
    · show cf_124_3 N X (cf_124_L1 N X F) vx (Int32.ofNat e) (Int32.ofNat (o + j)) t1 = _
      unfold cf_124_3 cf_124_10 cf_124_18 cf_124_21
      simp (disch := omega) only [ev_S, ev_C, ↓reduceIte, Nat.reduceEqDiff, Nat.reduceLeDiff, Nat.reduceAdd, Nat.reduceMul, Nat.reduceSub, reduceCtorEq, l32_0, l32_1, l32_2, l32_3, l32_4, l32_5, l32_6, l32_7, l32_8, l32_9, l32_10, l32_11, l32_12, l32_13, l32_14, l32_15, l32_16, l32_17, l32_18, l32_19, l32_20, l32_21, l32_22, l32_23, l32_24, l32_25, l32_26, l32_27, l32_28, l32_29, l32_33, l32_40, l32_41, l32_44, l32_45, l32_59, l32_61, l32_91, l32_93, l32_123, l32_125, n1, d1, p1]
      rfl
  · intro F t1 G1
    refine ⟨t1, ?_, G1⟩
    show cf_124_3 N X (cf_124_L1 N X F) vx (Int32.ofNat e) (Int32.ofNat (o + (e - o))) t1 = _
    have n1 : e ≤ o + (e - o) := by omega
    unfold cf_124_3 cf_124_27
    simp (disch := omega) only [ev_S, ev_C, ↓reduceIte, Nat.reduceEqDiff, Nat.reduceLeDiff, Nat.reduceAdd, Nat.reduceMul, Nat.reduceSub, reduceCtorEq, l32_0, l32_1, l32_2, l32_3, l32_4, l32_5, l32_6, l32_7, l32_8, l32_9, l32_10, l32_11, l32_12, l32_13, l32_14, l32_15, l32_16, l32_17, l32_18, l32_19, l32_20, l32_21, l32_22, l32_23, l32_24, l32_25, l32_26, l32_27, l32_28, l32_29, l32_33, l32_40, l32_41, l32_44, l32_45, l32_59, l32_61, l32_91, l32_93, l32_123, l32_125, n1]
theorem c_drp (hN : 170000 ≤ N) (hh : cHp t u w) (hx : cN (cel t) u vx x) (hy : cN (cel t) u vy y) (wy : wfN y) (dy : y.1 ≤ 4) (hu : u ≤ 162000) (hw : w ≤ 1000) : ∃ t' v, cf_110 N X vx vy t = some (t', .inl (some (.long v))) ∧ cE t t' u v (if kn x = 0 ∧ ¬ kn y = 0 then ansDr y (ivN x) else .inl 3) := by
  have kx := c_kn (N := N) (X := X) hx
  have ky := c_kn (N := N) (X := X) hy
  have lx := kn_le (x := x)
  have ly := kn_le (x := y)
  by_cases c : kn x = 0 ∧ ¬ kn y = 0
  · rw [if_pos c]
    obtain ⟨c0, h0⟩ := c
    have zy := c_sizeN (N := N) (X := X) hh hy
    have ga := c_gathered (N := N) (X := X) hh
    have ex := hx.z c0
    have lo := c_lowOf (N := N) (X := X) (t := t) (k := 0) (a := ivN x)
    rw [← ex] at lo
    rw [c0] at kx
    have hpl : (pts y).length = szN y := pts_len
    have s64 := wf64 wy
    generalize ivN x = z at *
    obtain ⟨o, ho⟩ : ∃ o, o = if z < 0 then 0 else Nat.min (wN z) (szN y) := ⟨_, rfl⟩
    obtain ⟨e, he⟩ : ∃ e, e = if z < 0 then szN y - wN z else szN y := ⟨_, rfl⟩
    have hm := Nat.min_le_right (wN z) (szN y)
    have hoe : o ≤ e ∧ e ≤ szN y := by
      rw [ho, he]
      split
      · omega
      · exact ⟨hm, Nat.le_refl _⟩
    have E1 : cf_110 N X vx vy t = cf_110_43 N X vy (Int32.toInt64 z) (Int32.ofNat (szN y)) (Int32.ofNat w) t := by
      generalize kn y = ky' at *
      unfold cf_110 cf_110_0 cf_110_4 cf_110_7 cf_110_11 cf_110_19 cf_110_23 cf_110_34
      simp (disch := omega) only [ev_S, ev_C, ↓reduceIte, Nat.reduceEqDiff, Nat.reduceLeDiff, Nat.reduceAdd, Nat.reduceMul, Nat.reduceSub, reduceCtorEq, l32_0, l32_1, l32_2, l32_3, l32_4, l32_5, l32_6, l32_7, l32_8, l32_9, l32_10, l32_11, l32_12, l32_13, l32_14, l32_15, l32_16, l32_17, l32_18, l32_19, l32_20, l32_21, l32_22, l32_23, l32_24, l32_25, l32_26, l32_27, l32_28, l32_29, l32_33, l32_40, l32_41, l32_44, l32_45, l32_59, l32_61, l32_91, l32_93, l32_123, l32_125, kx, ky, h0, lo, zy, ga]
    rw [E1]
    obtain ⟨t2, a1, a2⟩ := cG.all (N := N) (X := X) (o := o) (e := e) hN (cG.nil hh) hy wy hoe.1 (by omega) (by rw [List.length_nil]; omega)
    rw [List.nil_append] at a2
    have eL : (if z < 0 then (pts y).take (szN y - Nat.min (wN z) (szN y)) else (pts y).drop (Nat.min (wN z) (szN y))) = ((pts y).drop o).take (e - o) := by
      rw [ho, he]
      by_cases c : z < 0
      · rw [if_pos c, if_pos c, if_pos c, List.drop_zero, Nat.sub_zero]
        congr 1
        show szN y - min (wN z) (szN y) = _
        omega
      · rw [if_neg c, if_neg c, if_neg c, List.take_of_length_le (by rw [List.length_drop]; omega)]
    unfold ansDr
    rw [eL]
    have hmem : ∀ p ∈ ((pts y).drop o).take (e - o), p ∈ pts y := fun p hp => List.mem_of_mem_drop (List.mem_of_mem_take hp)
    have hl : (((pts y).drop o).take (e - o)).length ≤ 64 := by rw [List.length_take, List.length_drop]; omega
    have ky' := c_kn (N := N) (X := X) (a2.up hy)
    obtain ⟨t3, v, b1, b2⟩ := cG.build (N := N) (X := X) (k := kn y) hN a2 (pts_ok h0 hmem) (fun p hp => wf_pts wy p (hmem p hp)) (fun p hp => Nat.le_trans (pts_lv p (hmem p hp)) dy) (by omega) (by omega) (by omega) (by omega) (by omega)
    refine ⟨t3, v, ?_, b2⟩
    unfold cf_110_43
    rw [dr1 s64, dr2 s64, ← ho, ← he, a1]
    generalize kn y = kk at *
    show cf_110_81 N X vy (Int32.ofNat w) t2 = _
    unfold cf_110_81 cf_110_89 cf_110_94
    simp (disch := omega) only [ev_S, ev_C, ↓reduceIte, Nat.reduceEqDiff, Nat.reduceLeDiff, Nat.reduceAdd, Nat.reduceMul, Nat.reduceSub, reduceCtorEq, l32_0, l32_1, l32_2, l32_3, l32_4, l32_5, l32_6, l32_7, l32_8, l32_9, l32_10, l32_11, l32_12, l32_13, l32_14, l32_15, l32_16, l32_17, l32_18, l32_19, l32_20, l32_21, l32_22, l32_23, l32_24, l32_25, l32_26, l32_27, l32_28, l32_29, l32_33, l32_40, l32_41, l32_44, l32_45, l32_59, l32_61, l32_91, l32_93, l32_123, l32_125, ky', b1]
  · rw [if_neg c]
    refine ⟨t, _, ?_, cE.tr hh⟩
    have b1 := c_rf (N := N) (X := X) (t := t) (k := Int32.ofNat 3)
    generalize kn x = kx' at *
    generalize kn y = ky' at *
    by_cases d : kx' = 0
    · have e : ky' = 0 := Classical.byContradiction (fun q => c ⟨d, q⟩)
      unfold cf_110 cf_110_0 cf_110_4 cf_110_7 cf_110_11 cf_110_14 cf_110_18
      simp (disch := omega) only [ev_S, ev_C, ↓reduceIte, Nat.reduceEqDiff, Nat.reduceLeDiff, Nat.reduceAdd, Nat.reduceMul, Nat.reduceSub, reduceCtorEq, l32_0, l32_1, l32_2, l32_3, l32_4, l32_5, l32_6, l32_7, l32_8, l32_9, l32_10, l32_11, l32_12, l32_13, l32_14, l32_15, l32_16, l32_17, l32_18, l32_19, l32_20, l32_21, l32_22, l32_23, l32_24, l32_25, l32_26, l32_27, l32_28, l32_29, l32_33, l32_40, l32_41, l32_44, l32_45, l32_59, l32_61, l32_91, l32_93, l32_123, l32_125, kx, ky, d, e, b1]
    · unfold cf_110 cf_110_0 cf_110_4 cf_110_14 cf_110_18
      simp (disch := omega) only [ev_S, ev_C, ↓reduceIte, Nat.reduceEqDiff, Nat.reduceLeDiff, Nat.reduceAdd, Nat.reduceMul, Nat.reduceSub, reduceCtorEq, l32_0, l32_1, l32_2, l32_3, l32_4, l32_5, l32_6, l32_7, l32_8, l32_9, l32_10, l32_11, l32_12, l32_13, l32_14, l32_15, l32_16, l32_17, l32_18, l32_19, l32_20, l32_21, l32_22, l32_23, l32_24, l32_25, l32_26, l32_27, l32_28, l32_29, l32_33, l32_40, l32_41, l32_44, l32_45, l32_59, l32_61, l32_91, l32_93, l32_123, l32_125, kx, d, b1]
end TDC
