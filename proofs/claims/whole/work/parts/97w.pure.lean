/-! ===== PURE: run (76): a number in a row of a table (the class) ===== -/
/-- the end of an operation in the class, with more room -/
def cF (t t' : cS) (u : Nat) (v : Int64) (r : Ans) : Prop := ∃ u' w', cHp t' u' w' ∧ hfw t t' ∧ u ≤ u' ∧ (∀ y, y < u → cel t' y = cel t y) ∧ match r with
  | .inl k => v = rf (Int32.ofNat k) ∧ u' ≤ u + 2100
  | .inr x => cN (cel t') u' v x ∧ u' ≤ u + 20 * ctV (vw x) ∧ wfN x ∧ x.1 ≤ 4
section CEL
variable {N : Nat} {X : Nat → Option zz_C} {t t' t0 : cS} {u u' w w' i j : Nat} {vx vy vz vi vj v : Int64} {x y z yi yj : Nod} {r : List Int32} {a : Ans}
theorem cE.F (h : cE t t' u v a) : cF t t' u v a := by
  obtain ⟨u', w', h1, h2, h3, h4, h5⟩ := h
  refine ⟨u', w', h1, h2, h3, h4, ?_⟩
  cases a with
  | inl k => exact ⟨h5.1, by have := h5.2; omega⟩
  | inr x => exact ⟨h5.1, by have := h5.2.1; omega, h5.2.2⟩
theorem ctV4 (h : ¬ kn x = 0) : 4 ≤ ctV (vw x) := by
  have h : ¬ knV (vw x) = 0 := h
  generalize vw x = V at *
  obtain q | r | q | l := V
  · exact absurd rfl h
  · exact Nat.le_add_right _ _
  · exact Nat.le_add_right _ _
  · exact Nat.le_add_right _ _
theorem cG.F (G : cG t0 t u u' w []) (h : cE t t' u' v a) (hu : u' ≤ u + 70) (ha : ∀ x, a = .inr x → ¬ kn x = 0) : cF t0 t' u v a := by
  obtain ⟨u2, w', h1, h2, h3, h4, h5⟩ := h
  refine ⟨u2, w', h1, hfw.tr G.2.1 h2, Nat.le_trans G.2.2.1 h3, fun y hy => (h4 y (Nat.lt_of_lt_of_le hy G.2.2.1)).trans (G.2.2.2.1 y hy), ?_⟩
  cases a with
  | inl k => exact ⟨h5.1, by have := h5.2; omega⟩
  | inr x =>
    have := ctV4 (ha x rfl)
    exact ⟨h5.1, by have := h5.2.1; omega, h5.2.2⟩
theorem cN.zz (h : cN (cel t) u v x) (h0 : kn x = 0) : cN (cel t) u v (nZ (ivN x)) := by
  rw [h.z h0]
  exact cN_Z
theorem c_fitR (hx : cN (cel t) u vx (nR r)) (hy : cN (cel t) u vy y) (hz : cN (cel t) u vz z) (hh : cHp t u w) (cy : kn y = 0) (cz : kn z = 0) : cf_224 N X vx vy vz t = cf_224_67 N X vx vz (Int32.ofNat 1) (ivN y) (Int32.ofNat r.length) t := by
  have kx := c_kn (N := N) (X := X) hx
  have kx : cf_255 N X vx t = some (t, .inl (some (.int (Int32.ofNat 1)))) := kx
  have ky := c_kn (N := N) (X := X) hy
  have kz := c_kn (N := N) (X := X) hz
  rw [cy] at ky
  rw [cz] at kz
  have zx := c_sizeN (N := N) (X := X) hh hx
  have zx : cf_128 N X vx t = some (t, .inl (some (.int (Int32.ofNat r.length)))) := zx
  have ey := hy.z cy
  have lo := c_lowOf (N := N) (X := X) (t := t) (k := 0) (a := ivN y)
  rw [← ey] at lo
  have sb : Int32.ofNat 1 - Int32.ofNat 1 = Int32.ofNat 0 := by decide
  generalize ivN y = iy at *
  generalize r.length = sx at *
  unfold cf_224 cf_224_0 cf_224_4 cf_224_12 cf_224_17 cf_224_22 cf_224_29 cf_224_34 cf_224_41 cf_224_45 cf_224_53 cf_224_57
  simp (disch := omega) only [ev_S, ev_C, ↓reduceIte, Nat.reduceEqDiff, Nat.reduceLeDiff, Nat.reduceAdd, Nat.reduceMul, Nat.reduceSub, reduceCtorEq, l32_0, l32_1, l32_2, l32_3, l32_4, l32_5, l32_6, l32_7, l32_8, l32_9, l32_10, l32_11, l32_12, l32_13, l32_14, l32_15, l32_16, l32_17, l32_18, l32_19, l32_20, l32_21, l32_22, l32_23, l32_24, l32_25, l32_26, l32_27, l32_28, l32_29, l32_33, l32_40, l32_41, l32_44, l32_45, l32_59, l32_61, l32_91, l32_93, l32_123, l32_125, kx, kz, sb, ky, lo, zx]
theorem c_pt5 (hx : cN (cel t) u vx (nR r)) (hy : cN (cel t) u vy y) (hz : cN (cel t) u vz z) (hh : cHp t u w) (cy : kn y = 0) (cz : kn z = 0) (hr : r.length ≤ 64) (ho : ivN y < 0 ∨ ¬ ivN y < Int32.ofNat r.length) : cf_224 N X vx vy vz t = some (t, .inl (some (.long (rf (Int32.ofNat 5))))) := by
  rw [c_fitR hx hy hz hh cy cz]
  have b5 := c_rf (N := N) (X := X) (t := t) (k := Int32.ofNat 5)
  by_cases cn : ivN y < 0
  · unfold cf_224_67
    rw [if_pos cn]
    unfold cf_224_81 cf_224_85
    simp (disch := omega) only [ev_S, ev_C, ↓reduceIte, Nat.reduceEqDiff, Nat.reduceLeDiff, Nat.reduceAdd, Nat.reduceMul, Nat.reduceSub, reduceCtorEq, l32_0, l32_1, l32_2, l32_3, l32_4, l32_5, l32_6, l32_7, l32_8, l32_9, l32_10, l32_11, l32_12, l32_13, l32_14, l32_15, l32_16, l32_17, l32_18, l32_19, l32_20, l32_21, l32_22, l32_23, l32_24, l32_25, l32_26, l32_27, l32_28, l32_29, l32_33, l32_40, l32_41, l32_44, l32_45, l32_59, l32_61, l32_91, l32_93, l32_123, l32_125, b5]
  · have cl : ¬ ivN y < Int32.ofNat r.length := ho.resolve_left cn
    unfold cf_224_67
    rw [if_neg cn]
    unfold cf_224_74
    rw [if_neg cl]
    unfold cf_224_81 cf_224_85
    simp (disch := omega) only [ev_S, ev_C, ↓reduceIte, Nat.reduceEqDiff, Nat.reduceLeDiff, Nat.reduceAdd, Nat.reduceMul, Nat.reduceSub, reduceCtorEq, l32_0, l32_1, l32_2, l32_3, l32_4, l32_5, l32_6, l32_7, l32_8, l32_9, l32_10, l32_11, l32_12, l32_13, l32_14, l32_15, l32_16, l32_17, l32_18, l32_19, l32_20, l32_21, l32_22, l32_23, l32_24, l32_25, l32_26, l32_27, l32_28, l32_29, l32_33, l32_40, l32_41, l32_44, l32_45, l32_59, l32_61, l32_91, l32_93, l32_123, l32_125, b5]
/-- the row with one number changed -/
theorem c_ptr (hN : 170000 ≤ N) (hx : cN (cel t) u vx (nR r)) (hy : cN (cel t) u vy y) (hz : cN (cel t) u vz z) (hh : cHp t u w) (cy : kn y = 0) (cz : kn z = 0) (hr : r.length ≤ 64) (hj : ivN y = Int32.ofNat j) (hl : j < r.length) (hu : u ≤ 162000) (hw : w ≤ 1000) : ∃ t2 v, cf_224 N X vx vy vz t = some (t2, .inl (some (.long v))) ∧ cG t t2 u (u + 1 + r.length) w [] ∧ cN (cel t2) (u + 1 + r.length) v (nR (r.set j (ivN z))) := by
  rw [c_fitR hx hy hz hh cy cz, hj]
  have hp : pts (nR r) = r.map nZ := rfl
  have ga := c_gathered (N := N) (X := X) hh
  obtain ⟨t1, a1, a2⟩ := cG.all (N := N) (X := X) (o := 0) (e := j) hN (cG.nil hh) hx hr (Nat.zero_le _) (by rw [hp, List.length_map]; omega) (by rw [List.length_nil]; omega)
  rw [List.nil_append, List.drop_zero, Nat.sub_zero, hp, ← List.map_take] at a2
  have l1 : ((r.take j).map nZ).length ≤ 64 := by rw [List.length_map, List.length_take]; omega
  obtain ⟨t2, b1, b2⟩ := a2.put (N := N) (X := X) (by omega) (a2.up (hz.zz cz))
  have l2 : ((r.take j).map nZ ++ [nZ (ivN z)]).length ≤ 65 := by rw [List.length_append, List.length_singleton]; omega
  obtain ⟨t3, c1, c2⟩ := cG.all (N := N) (X := X) (o := j + 1) (e := r.length) hN b2 hx hr (by omega) (by rw [hp, List.length_map]; omega) (by omega)
  have eL : (r.take j).map nZ ++ [nZ (ivN z)] ++ ((pts (nR r)).drop (j + 1)).take (r.length - (j + 1)) = (r.set j (ivN z)).map nZ := by
    have e3 : ((r.drop (j + 1)).map nZ).take (r.length - (j + 1)) = (r.drop (j + 1)).map nZ := List.take_of_length_le (by rw [List.length_map, List.length_drop]; omega)
    rw [hp, ← List.map_drop, e3, List.set_eq_take_append_cons_drop, if_pos hl, List.map_append, List.append_assoc]
    rfl
  rw [eL] at c2
  have hls : (r.set j (ivN z)).length = r.length := List.length_set
  obtain ⟨t4, v, d1, d2, d3, d4⟩ := cG.rowV (N := N) (X := X) (xs := []) (zs := r.set j (ivN z)) hN c2 (by omega) (by show w + 0 ≤ 60000; omega) (by omega)
  rw [hls] at d2 d3
  refine ⟨t4, v, ?_, d2, d3⟩
  have d1 : cf_126 N X (Int32.ofNat 1) (Int32.ofNat w) t3 = _ := d1
  have a1 : cf_124 N X vx (Int32.ofNat 0) (Int32.ofNat j) t = _ := a1
  clear l1 l2 eL hls c2 d2 d3
  generalize r.length = sx at *
  unfold cf_224_67 cf_224_74 cf_224_86 cf_224_93 cf_224_106 cf_224_115 cf_224_129 cf_224_140
  simp (disch := omega) only [ev_S, ev_C, ↓reduceIte, Nat.reduceEqDiff, Nat.reduceLeDiff, Nat.reduceAdd, Nat.reduceMul, Nat.reduceSub, reduceCtorEq, l32_0, l32_1, l32_2, l32_3, l32_4, l32_5, l32_6, l32_7, l32_8, l32_9, l32_10, l32_11, l32_12, l32_13, l32_14, l32_15, l32_16, l32_17, l32_18, l32_19, l32_20, l32_21, l32_22, l32_23, l32_24, l32_25, l32_26, l32_27, l32_28, l32_29, l32_33, l32_40, l32_41, l32_44, l32_45, l32_59, l32_61, l32_91, l32_93, l32_123, l32_125, hl, ga, a1, b1, c1, d1]
/-- why a table can't have it -/
def celT (x yi yj z : Nod) : Nat := if kn x = 2 ∧ kn yi = 0 ∧ kn yj = 0 ∧ kn z = 0 then (if ivN yi < 0 ∨ ¬ ivN yi < Int32.ofNat (szN x) then 5 else 0) else 3
theorem c_celT (hh : cHp t u w) (hx : cN (cel t) u vx x) (hi : cN (cel t) u vi yi) (hj : cN (cel t) u vj yj) (hz : cN (cel t) u vz z) : cf_225 N X vx vi vj vz t = some (t, .inl (some (.int (Int32.ofNat (celT x yi yj z))))) := by
  have kx := c_kn (N := N) (X := X) hx
  have ki := c_kn (N := N) (X := X) hi
  have kj := c_kn (N := N) (X := X) hj
  have kz := c_kn (N := N) (X := X) hz
  have lx := kn_le (x := x)
  have li := kn_le (x := yi)
  have lj := kn_le (x := yj)
  have lz := kn_le (x := z)
  unfold celT
  by_cases c : kn x = 2 ∧ kn yi = 0 ∧ kn yj = 0 ∧ kn z = 0
  · rw [if_pos c]
    obtain ⟨c1, c2, c3, c4⟩ := c
    have lo := c_lowOf (N := N) (X := X) (t := t) (k := 0) (a := ivN yi)
    rw [← hi.z c2] at lo
    have zx := c_sizeN (N := N) (X := X) hh hx
    rw [c1] at kx
    rw [c2] at ki
    rw [c3] at kj
    rw [c4] at kz
    by_cases cn : ivN yi < 0
    · rw [if_pos (Or.inl cn)]
      have cn : (ivN yi < Int32.ofNat 0) = True := eq_true cn
      generalize ivN yi = q at *
      unfold cf_225 cf_225_0 cf_225_4 cf_225_8 cf_225_12 cf_225_15 cf_225_20 cf_225_23 cf_225_28 cf_225_33 cf_225_37 cf_225_55 cf_225_60
      simp (disch := omega) only [ev_S, ev_C, ↓reduceIte, Nat.reduceEqDiff, Nat.reduceLeDiff, Nat.reduceAdd, Nat.reduceMul, Nat.reduceSub, reduceCtorEq, l32_0, l32_1, l32_2, l32_3, l32_4, l32_5, l32_6, l32_7, l32_8, l32_9, l32_10, l32_11, l32_12, l32_13, l32_14, l32_15, l32_16, l32_17, l32_18, l32_19, l32_20, l32_21, l32_22, l32_23, l32_24, l32_25, l32_26, l32_27, l32_28, l32_29, l32_33, l32_40, l32_41, l32_44, l32_45, l32_59, l32_61, l32_91, l32_93, l32_123, l32_125, kx, ki, kj, kz, lo, cn]
    · have cn' : (ivN yi < Int32.ofNat 0) = False := eq_false cn
      by_cases cl : ivN yi < Int32.ofNat (szN x)
      · rw [if_neg (fun q => q.elim cn (fun q => q cl))]
        have cl : (ivN yi < Int32.ofNat (szN x)) = True := eq_true cl
        generalize ivN yi = q at *
        generalize szN x = sx at *
        unfold cf_225 cf_225_0 cf_225_4 cf_225_8 cf_225_12 cf_225_15 cf_225_20 cf_225_23 cf_225_28 cf_225_33 cf_225_37 cf_225_40 cf_225_44 cf_225_52 cf_225_59 cf_225_60
        simp (disch := omega) only [ev_S, ev_C, ↓reduceIte, Nat.reduceEqDiff, Nat.reduceLeDiff, Nat.reduceAdd, Nat.reduceMul, Nat.reduceSub, reduceCtorEq, l32_0, l32_1, l32_2, l32_3, l32_4, l32_5, l32_6, l32_7, l32_8, l32_9, l32_10, l32_11, l32_12, l32_13, l32_14, l32_15, l32_16, l32_17, l32_18, l32_19, l32_20, l32_21, l32_22, l32_23, l32_24, l32_25, l32_26, l32_27, l32_28, l32_29, l32_33, l32_40, l32_41, l32_44, l32_45, l32_59, l32_61, l32_91, l32_93, l32_123, l32_125, kx, ki, kj, kz, lo, cn', zx, cl]
      · rw [if_pos (Or.inr cl)]
        have cl : (ivN yi < Int32.ofNat (szN x)) = False := eq_false cl
        generalize ivN yi = q at *
        generalize szN x = sx at *
        unfold cf_225 cf_225_0 cf_225_4 cf_225_8 cf_225_12 cf_225_15 cf_225_20 cf_225_23 cf_225_28 cf_225_33 cf_225_37 cf_225_40 cf_225_44 cf_225_52 cf_225_55 cf_225_60
        simp (disch := omega) only [ev_S, ev_C, ↓reduceIte, Nat.reduceEqDiff, Nat.reduceLeDiff, Nat.reduceAdd, Nat.reduceMul, Nat.reduceSub, reduceCtorEq, l32_0, l32_1, l32_2, l32_3, l32_4, l32_5, l32_6, l32_7, l32_8, l32_9, l32_10, l32_11, l32_12, l32_13, l32_14, l32_15, l32_16, l32_17, l32_18, l32_19, l32_20, l32_21, l32_22, l32_23, l32_24, l32_25, l32_26, l32_27, l32_28, l32_29, l32_33, l32_40, l32_41, l32_44, l32_45, l32_59, l32_61, l32_91, l32_93, l32_123, l32_125, kx, ki, kj, kz, lo, cn', zx, cl]
  · rw [if_neg c]
    generalize kn x = p1 at *
    generalize kn yi = p2 at *
    generalize kn yj = p3 at *
    generalize kn z = p4 at *
    by_cases c1 : p1 = 2
    · by_cases c2 : p2 = 0
      · by_cases c3 : p3 = 0
        · have c4 : ¬ p4 = 0 := fun q => c ⟨c1, c2, c3, q⟩
          clear c
          unfold cf_225 cf_225_0 cf_225_4 cf_225_8 cf_225_12 cf_225_15 cf_225_20 cf_225_23 cf_225_28 cf_225_31
          simp (disch := omega) only [ev_S, ev_C, ↓reduceIte, Nat.reduceEqDiff, Nat.reduceLeDiff, Nat.reduceAdd, Nat.reduceMul, Nat.reduceSub, reduceCtorEq, l32_0, l32_1, l32_2, l32_3, l32_4, l32_5, l32_6, l32_7, l32_8, l32_9, l32_10, l32_11, l32_12, l32_13, l32_14, l32_15, l32_16, l32_17, l32_18, l32_19, l32_20, l32_21, l32_22, l32_23, l32_24, l32_25, l32_26, l32_27, l32_28, l32_29, l32_33, l32_40, l32_41, l32_44, l32_45, l32_59, l32_61, l32_91, l32_93, l32_123, l32_125, kx, ki, kj, kz, c1, c2, c3, c4]
        · clear c
          unfold cf_225 cf_225_0 cf_225_4 cf_225_8 cf_225_12 cf_225_15 cf_225_20 cf_225_31
          simp (disch := omega) only [ev_S, ev_C, ↓reduceIte, Nat.reduceEqDiff, Nat.reduceLeDiff, Nat.reduceAdd, Nat.reduceMul, Nat.reduceSub, reduceCtorEq, l32_0, l32_1, l32_2, l32_3, l32_4, l32_5, l32_6, l32_7, l32_8, l32_9, l32_10, l32_11, l32_12, l32_13, l32_14, l32_15, l32_16, l32_17, l32_18, l32_19, l32_20, l32_21, l32_22, l32_23, l32_24, l32_25, l32_26, l32_27, l32_28, l32_29, l32_33, l32_40, l32_41, l32_44, l32_45, l32_59, l32_61, l32_91, l32_93, l32_123, l32_125, kx, ki, kj, c1, c2, c3]
      · clear c
        unfold cf_225 cf_225_0 cf_225_4 cf_225_8 cf_225_12 cf_225_31
        simp (disch := omega) only [ev_S, ev_C, ↓reduceIte, Nat.reduceEqDiff, Nat.reduceLeDiff, Nat.reduceAdd, Nat.reduceMul, Nat.reduceSub, reduceCtorEq, l32_0, l32_1, l32_2, l32_3, l32_4, l32_5, l32_6, l32_7, l32_8, l32_9, l32_10, l32_11, l32_12, l32_13, l32_14, l32_15, l32_16, l32_17, l32_18, l32_19, l32_20, l32_21, l32_22, l32_23, l32_24, l32_25, l32_26, l32_27, l32_28, l32_29, l32_33, l32_40, l32_41, l32_44, l32_45, l32_59, l32_61, l32_91, l32_93, l32_123, l32_125, kx, ki, c1, c2]
    · clear c
      unfold cf_225 cf_225_0 cf_225_4 cf_225_31
      simp (disch := omega) only [ev_S, ev_C, ↓reduceIte, Nat.reduceEqDiff, Nat.reduceLeDiff, Nat.reduceAdd, Nat.reduceMul, Nat.reduceSub, reduceCtorEq, l32_0, l32_1, l32_2, l32_3, l32_4, l32_5, l32_6, l32_7, l32_8, l32_9, l32_10, l32_11, l32_12, l32_13, l32_14, l32_15, l32_16, l32_17, l32_18, l32_19, l32_20, l32_21, l32_22, l32_23, l32_24, l32_25, l32_26, l32_27, l32_28, l32_29, l32_33, l32_40, l32_41, l32_44, l32_45, l32_59, l32_61, l32_91, l32_93, l32_123, l32_125, kx, c1]
end CEL
