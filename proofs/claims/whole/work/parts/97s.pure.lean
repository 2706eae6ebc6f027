/-! ===== PURE: run (72): a part in another's stead (the class) ===== -/
section PTC
variable {N : Nat} {X : Nat → Option zz_C} {t t' : cS} {u w : Nat} {vx vy vz : Int64} {x y z : Nod}
/-- may z be a part of x -/
abbrev fitP (x z : Nod) : Prop := kn x = 3 ∨ (¬ kn x = 0 ∧ kn z + 1 = kn x)
/-- x with z at place i -/
def setP (x : Nod) (i : Nat) (z : Nod) : List Nod := (pts x).take i ++ [z] ++ (pts x).drop (i + 1)
def ansPt (x : Nod) (i : Int32) (z : Nod) : Ans := if i < 0 ∨ ¬ i < Int32.ofNat (szN x) then .inl 5 else ansM (kn x) (setP x i.toNatClampNeg z)
def ansPut (x y z : Nod) : Ans := if fitP x z ∧ kn y = 0 then ansPt x (ivN y) z else .inl 3
theorem setP_mem {i : Nat} {p : Nod} (h : p ∈ setP x i z) : p ∈ pts x ∨ p = z := by
  unfold setP at h
  rcases List.mem_append.mp h with h | h
  · rcases List.mem_append.mp h with h | h
    · exact Or.inl (List.mem_of_mem_take h)
    · exact Or.inr (List.mem_singleton.mp h)
  · exact Or.inl (List.mem_of_mem_drop h)
theorem setP_ok {i : Nat} (hf : fitP x z) : mkOk (kn x) (setP x i z) := by
  have lx := kn_le (x := x)
  have h : kn x = 3 ∨ (kn x = 1 ∧ kn z = 0) ∨ (kn x = 2 ∧ kn z = 1) := by
    rcases hf with h | ⟨h1, h2⟩ <;> omega
  rcases h with h | ⟨h1, h2⟩ | ⟨h1, h2⟩
  · exact Or.inr (Or.inr h)
  · refine Or.inl ⟨h1, fun p hp => ?_⟩
    rcases setP_mem hp with q | q
    · exact (pts_kd q).1 h1
    · rw [q, kd_kn, h2]
      rfl
  · refine Or.inr (Or.inl ⟨h1, fun p hp => ?_⟩)
    rcases setP_mem hp with q | q
    · exact (pts_kd q).2 h1
    · rw [q, kd_kn, h2]
      rfl
theorem setP_len {i : Nat} (hi : i < szN x) : (setP x i z).length = szN x := by
  unfold setP
  have := pts_len (x := x)
  rw [List.length_append, List.length_append, List.length_singleton, List.length_take, List.length_drop]
  show min i _ + 1 + _ = _
  omega
theorem c_ptp (hN : 170000 ≤ N) (hh : cHp t u w) (hx : cN (cel t) u vx x) (hy : cN (cel t) u vy y) (hz : cN (cel t) u vz z) (wx : wfN x) (wz : wfN z) (dx : x.1 ≤ 4) (dz : z.1 ≤ 4) (hu : u ≤ 162000) (hw : w ≤ 1000) : ∃ t' v, cf_224 N X vx vy vz t = some (t', .inl (some (.long v))) ∧ cE t t' u v (ansPut x y z) := by
  have kx := c_kn (N := N) (X := X) hx
  have ky := c_kn (N := N) (X := X) hy
  have kz := c_kn (N := N) (X := X) hz
  have lx := kn_le (x := x)
  have ly := kn_le (x := y)
  have lz := kn_le (x := z)
  have b3 := c_rf (N := N) (X := X) (t := t) (k := Int32.ofNat 3)
  have hF : cf_224 N X vx vy vz t = cf_224_34 N X vx vy vz (Int32.ofNat (kn x)) (if fitP x z then 1 else 0) t := by
    have hv : kn x = 0 ∨ kn x = 1 ∨ kn x = 2 ∨ kn x = 3 := by omega
    unfold fitP
    rcases hv with h | h | h | h
    · rw [if_neg (by omega)]
      rw [h] at kx ⊢
      unfold cf_224 cf_224_0 cf_224_4 cf_224_12 cf_224_33
      simp (disch := omega) only [ev_S, ev_C, ↓reduceIte, Nat.reduceEqDiff, Nat.reduceLeDiff, Nat.reduceAdd, Nat.reduceMul, Nat.reduceSub, reduceCtorEq, l32_0, l32_1, l32_2, l32_3, l32_4, l32_5, l32_6, l32_7, l32_8, l32_9, l32_10, l32_11, l32_12, l32_13, l32_14, l32_15, l32_16, l32_17, l32_18, l32_19, l32_20, l32_21, l32_22, l32_23, l32_24, l32_25, l32_26, l32_27, l32_28, l32_29, l32_33, l32_40, l32_41, l32_44, l32_45, l32_59, l32_61, l32_91, l32_93, l32_123, l32_125, kx]
    · rw [h] at kx ⊢
      have sb : Int32.ofNat 1 - Int32.ofNat 1 = Int32.ofNat 0 := by decide
      by_cases c : kn z = 0
      · rw [if_pos (by omega)]
        rw [c] at kz
        unfold cf_224 cf_224_0 cf_224_4 cf_224_12 cf_224_17 cf_224_22 cf_224_29
        simp (disch := omega) only [ev_S, ev_C, ↓reduceIte, Nat.reduceEqDiff, Nat.reduceLeDiff, Nat.reduceAdd, Nat.reduceMul, Nat.reduceSub, reduceCtorEq, l32_0, l32_1, l32_2, l32_3, l32_4, l32_5, l32_6, l32_7, l32_8, l32_9, l32_10, l32_11, l32_12, l32_13, l32_14, l32_15, l32_16, l32_17, l32_18, l32_19, l32_20, l32_21, l32_22, l32_23, l32_24, l32_25, l32_26, l32_27, l32_28, l32_29, l32_33, l32_40, l32_41, l32_44, l32_45, l32_59, l32_61, l32_91, l32_93, l32_123, l32_125, kx, kz, sb]
      · rw [if_neg (by omega)]
        generalize kn z = q at *
        unfold cf_224 cf_224_0 cf_224_4 cf_224_12 cf_224_17 cf_224_22 cf_224_33
        simp (disch := omega) only [ev_S, ev_C, ↓reduceIte, Nat.reduceEqDiff, Nat.reduceLeDiff, Nat.reduceAdd, Nat.reduceMul, Nat.reduceSub, reduceCtorEq, l32_0, l32_1, l32_2, l32_3, l32_4, l32_5, l32_6, l32_7, l32_8, l32_9, l32_10, l32_11, l32_12, l32_13, l32_14, l32_15, l32_16, l32_17, l32_18, l32_19, l32_20, l32_21, l32_22, l32_23, l32_24, l32_25, l32_26, l32_27, l32_28, l32_29, l32_33, l32_40, l32_41, l32_44, l32_45, l32_59, l32_61, l32_91, l32_93, l32_123, l32_125, kx, kz, sb, c]
    · rw [h] at kx ⊢
      have sb : Int32.ofNat 2 - Int32.ofNat 1 = Int32.ofNat 1 := by decide
      by_cases c : kn z = 1
      · rw [if_pos (by omega)]
        rw [c] at kz
        unfold cf_224 cf_224_0 cf_224_4 cf_224_12 cf_224_17 cf_224_22 cf_224_29
        simp (disch := omega) only [ev_S, ev_C, ↓reduceIte, Nat.reduceEqDiff, Nat.reduceLeDiff, Nat.reduceAdd, Nat.reduceMul, Nat.reduceSub, reduceCtorEq, l32_0, l32_1, l32_2, l32_3, l32_4, l32_5, l32_6, l32_7, l32_8, l32_9, l32_10, l32_11, l32_12, l32_13, l32_14, l32_15, l32_16, l32_17, l32_18, l32_19, l32_20, l32_21, l32_22, l32_23, l32_24, l32_25, l32_26, l32_27, l32_28, l32_29, l32_33, l32_40, l32_41, l32_44, l32_45, l32_59, l32_61, l32_91, l32_93, l32_123, l32_125, kx, kz, sb]
      · rw [if_neg (by omega)]
        generalize kn z = q at *
        unfold cf_224 cf_224_0 cf_224_4 cf_224_12 cf_224_17 cf_224_22 cf_224_33
        simp (disch := omega) only [ev_S, ev_C, ↓reduceIte, Nat.reduceEqDiff, Nat.reduceLeDiff, Nat.reduceAdd, Nat.reduceMul, Nat.reduceSub, reduceCtorEq, l32_0, l32_1, l32_2, l32_3, l32_4, l32_5, l32_6, l32_7, l32_8, l32_9, l32_10, l32_11, l32_12, l32_13, l32_14, l32_15, l32_16, l32_17, l32_18, l32_19, l32_20, l32_21, l32_22, l32_23, l32_24, l32_25, l32_26, l32_27, l32_28, l32_29, l32_33, l32_40, l32_41, l32_44, l32_45, l32_59, l32_61, l32_91, l32_93, l32_123, l32_125, kx, kz, sb, c]
    · rw [if_pos (by omega)]
      rw [h] at kx ⊢
      unfold cf_224 cf_224_0 cf_224_4 cf_224_29
      simp (disch := omega) only [ev_S, ev_C, ↓reduceIte, Nat.reduceEqDiff, Nat.reduceLeDiff, Nat.reduceAdd, Nat.reduceMul, Nat.reduceSub, reduceCtorEq, l32_0, l32_1, l32_2, l32_3, l32_4, l32_5, l32_6, l32_7, l32_8, l32_9, l32_10, l32_11, l32_12, l32_13, l32_14, l32_15, l32_16, l32_17, l32_18, l32_19, l32_20, l32_21, l32_22, l32_23, l32_24, l32_25, l32_26, l32_27, l32_28, l32_29, l32_33, l32_40, l32_41, l32_44, l32_45, l32_59, l32_61, l32_91, l32_93, l32_123, l32_125, kx]
  rw [hF]
  clear hF
  unfold ansPut
  by_cases cf : fitP x z
  · rw [if_pos cf]
    by_cases c0 : kn y = 0
    · rw [if_pos ⟨cf, c0⟩]
      have zx := c_sizeN (N := N) (X := X) hh hx
      have ga := c_gathered (N := N) (X := X) hh
      have ey := hy.z c0
      have lo := c_lowOf (N := N) (X := X) (t := t) (k := 0) (a := ivN y)
      rw [← ey] at lo
      rw [c0] at ky
      have s64 := wf64 wx
      have hpl : (pts x).length = szN x := pts_len
      have b5 := c_rf (N := N) (X := X) (t := t) (k := Int32.ofNat 5)
      have E1 : cf_224_34 N X vx vy vz (Int32.ofNat (kn x)) 1 t = cf_224_67 N X vx vz (Int32.ofNat (kn x)) (ivN y) (Int32.ofNat (szN x)) t := by
        generalize kn x = kk at *
        generalize ivN y = iy at *
        generalize szN x = sx at *
        unfold cf_224_34 cf_224_41 cf_224_45 cf_224_53 cf_224_57
        simp (disch := omega) only [ev_S, ev_C, ↓reduceIte, Nat.reduceEqDiff, Nat.reduceLeDiff, Nat.reduceAdd, Nat.reduceMul, Nat.reduceSub, reduceCtorEq, l32_0, l32_1, l32_2, l32_3, l32_4, l32_5, l32_6, l32_7, l32_8, l32_9, l32_10, l32_11, l32_12, l32_13, l32_14, l32_15, l32_16, l32_17, l32_18, l32_19, l32_20, l32_21, l32_22, l32_23, l32_24, l32_25, l32_26, l32_27, l32_28, l32_29, l32_33, l32_40, l32_41, l32_44, l32_45, l32_59, l32_61, l32_91, l32_93, l32_123, l32_125, ky, lo, zx]
      rw [E1]
      unfold ansPt
      by_cases cn : ivN y < 0
      · rw [if_pos (Or.inl cn)]
        refine ⟨t, _, ?_, cE.tr hh⟩
        unfold cf_224_67
        rw [if_pos cn]
        unfold cf_224_81 cf_224_85
        simp (disch := omega) only [ev_S, ev_C, ↓reduceIte, Nat.reduceEqDiff, Nat.reduceLeDiff, Nat.reduceAdd, Nat.reduceMul, Nat.reduceSub, reduceCtorEq, l32_0, l32_1, l32_2, l32_3, l32_4, l32_5, l32_6, l32_7, l32_8, l32_9, l32_10, l32_11, l32_12, l32_13, l32_14, l32_15, l32_16, l32_17, l32_18, l32_19, l32_20, l32_21, l32_22, l32_23, l32_24, l32_25, l32_26, l32_27, l32_28, l32_29, l32_33, l32_40, l32_41, l32_44, l32_45, l32_59, l32_61, l32_91, l32_93, l32_123, l32_125, b5]
      · obtain ⟨i, hi, e⟩ := i32nn cn
        rw [e] at cn ⊢
        by_cases cl : i < szN x
        · have e2 : ¬ (Int32.ofNat i < 0 ∨ ¬ Int32.ofNat i < Int32.ofNat (szN x)) := by
            intro q
            rcases q with q | q
            · exact cn q
            · refine q ?_
              rw [ev_lt (by omega) (by omega)]
              exact cl
          rw [if_neg e2]
          have tni : (Int32.ofNat i).toNatClampNeg = i := clamp_of rfl (by omega)
          rw [tni]
          obtain ⟨t1, a1, a2⟩ := cG.all (N := N) (X := X) (o := 0) (e := i) hN (cG.nil hh) hx wx (Nat.zero_le _) (by omega) (by rw [List.length_nil]; omega)
          rw [List.nil_append, List.drop_zero, Nat.sub_zero] at a2
          have l1 : ((pts x).take i).length ≤ 64 := by rw [List.length_take]; omega
          obtain ⟨t2, b1, b2⟩ := a2.put (N := N) (X := X) (by omega) (a2.up hz)
          have l2 : ((pts x).take i ++ [z]).length ≤ 65 := by rw [List.length_append, List.length_singleton]; omega
          obtain ⟨t3, c1, c2⟩ := cG.all (N := N) (X := X) (o := i + 1) (e := szN x) hN b2 hx wx (by omega) (by omega) (by omega)
          have eL : (pts x).take i ++ [z] ++ ((pts x).drop (i + 1)).take (szN x - (i + 1)) = setP x i z := by
            unfold setP
            congr 1
            exact List.take_of_length_le (by rw [List.length_drop]; omega)
          rw [eL] at c2
          have hl := setP_len (z := z) cl
          obtain ⟨t4, v, d1, d2⟩ := cG.build (N := N) (X := X) (k := kn x) hN c2 (setP_ok cf) (fun p hp => by rcases setP_mem hp with q | q; exact wf_pts wx p q; rw [q]; exact wz) (fun p hp => by rcases setP_mem hp with q | q; exact Nat.le_trans (pts_lv p q) dx; rw [q]; exact dz) (by omega) (by omega) (by omega) (by omega) (by omega)
          refine ⟨t4, v, ?_, d2⟩
          have a1 : cf_124 N X vx (Int32.ofNat 0) (Int32.ofNat i) t = _ := a1
          generalize kn x = kk at *
          generalize szN x = sx at *
          unfold cf_224_67 cf_224_74 cf_224_86 cf_224_93 cf_224_106 cf_224_115 cf_224_129 cf_224_140
          simp (disch := omega) only [ev_S, ev_C, ↓reduceIte, Nat.reduceEqDiff, Nat.reduceLeDiff, Nat.reduceAdd, Nat.reduceMul, Nat.reduceSub, reduceCtorEq, l32_0, l32_1, l32_2, l32_3, l32_4, l32_5, l32_6, l32_7, l32_8, l32_9, l32_10, l32_11, l32_12, l32_13, l32_14, l32_15, l32_16, l32_17, l32_18, l32_19, l32_20, l32_21, l32_22, l32_23, l32_24, l32_25, l32_26, l32_27, l32_28, l32_29, l32_33, l32_40, l32_41, l32_44, l32_45, l32_59, l32_61, l32_91, l32_93, l32_123, l32_125, cl, ga, a1, b1, c1, d1]
        · have e2 : Int32.ofNat i < 0 ∨ ¬ Int32.ofNat i < Int32.ofNat (szN x) := by
            right
            rw [ev_lt (by omega) (by omega)]
            exact cl
          rw [if_pos e2]
          refine ⟨t, _, ?_, cE.tr hh⟩
          generalize szN x = sx at *
          unfold cf_224_67 cf_224_74 cf_224_81 cf_224_85
          simp (disch := omega) only [ev_S, ev_C, ↓reduceIte, Nat.reduceEqDiff, Nat.reduceLeDiff, Nat.reduceAdd, Nat.reduceMul, Nat.reduceSub, reduceCtorEq, l32_0, l32_1, l32_2, l32_3, l32_4, l32_5, l32_6, l32_7, l32_8, l32_9, l32_10, l32_11, l32_12, l32_13, l32_14, l32_15, l32_16, l32_17, l32_18, l32_19, l32_20, l32_21, l32_22, l32_23, l32_24, l32_25, l32_26, l32_27, l32_28, l32_29, l32_33, l32_40, l32_41, l32_44, l32_45, l32_59, l32_61, l32_91, l32_93, l32_123, l32_125, cl, b5]
    · rw [if_neg (fun q => c0 q.2)]
      refine ⟨t, _, ?_, cE.tr hh⟩
      generalize kn y = q at *
      generalize kn x = kk at *
      unfold cf_224_34 cf_224_41 cf_224_45 cf_224_48 cf_224_52
      simp (disch := omega) only [ev_S, ev_C, ↓reduceIte, Nat.reduceEqDiff, Nat.reduceLeDiff, Nat.reduceAdd, Nat.reduceMul, Nat.reduceSub, reduceCtorEq, l32_0, l32_1, l32_2, l32_3, l32_4, l32_5, l32_6, l32_7, l32_8, l32_9, l32_10, l32_11, l32_12, l32_13, l32_14, l32_15, l32_16, l32_17, l32_18, l32_19, l32_20, l32_21, l32_22, l32_23, l32_24, l32_25, l32_26, l32_27, l32_28, l32_29, l32_33, l32_40, l32_41, l32_44, l32_45, l32_59, l32_61, l32_91, l32_93, l32_123, l32_125, ky, c0, b3]
  · rw [if_neg cf, if_neg (fun q => cf q.1)]
    refine ⟨t, _, ?_, cE.tr hh⟩
    unfold cf_224_34 cf_224_48 cf_224_52
    simp (disch := omega) only [ev_S, ev_C, ↓reduceIte, Nat.reduceEqDiff, Nat.reduceLeDiff, Nat.reduceAdd, Nat.reduceMul, Nat.reduceSub, reduceCtorEq, l32_0, l32_1, l32_2, l32_3, l32_4, l32_5, l32_6, l32_7, l32_8, l32_9, l32_10, l32_11, l32_12, l32_13, l32_14, l32_15, l32_16, l32_17, l32_18, l32_19, l32_20, l32_21, l32_22, l32_23, l32_24, l32_25, l32_26, l32_27, l32_28, l32_29, l32_33, l32_40, l32_41, l32_44, l32_45, l32_59, l32_61, l32_91, l32_93, l32_123, l32_125, b3]
end PTC
