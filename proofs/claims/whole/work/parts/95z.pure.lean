/-! ===== PURE: run (27): the signs between two values, the class: rows ===== -/
def opC (g : Nat → Int64) (u : Nat) (v : Int64) (p : Opd) : Prop := match p with
  | .inl z => v = tg 0 z
  | .inr r => cV g u v (vR r)
section TWC
variable {N sg : Nat} {X : Nat → Option zz_C} {t t' t2 : cS} {u u' u2 w i j L : Nat} {x y : Nod} {xs : List Nod} {zs : List Int32} {vx vy v : Int64} {p q : Opd}
theorem cG.put' (H : cG t t' u u' w xs) (hw : w + xs.length < 61000) (hx : cN (cel t') u' v x) : ∃ t'', cf_123 N X v t' = some (t'', .inl none) ∧ cG t t'' u u' w (xs ++ [x]) ∧ kI t'' 58 1 = kI t' 58 1 := by
  obtain ⟨t2, e1, e2⟩ := cG.put (N := N) (X := X) H hw hx
  obtain ⟨t3, f1, f2, f3, f4⟩ := c_put1 (N := N) (X := X) (v := v) H.1 hw
  rw [e1] at f1
  cases f1
  exact ⟨t2, e1, e2, f3.1 58 1 (by omega)⟩
theorem cG.rowV (hN : 170000 ≤ N) (H : cG t t' u u' w (xs ++ zs.map nZ)) (hz : zs.length ≤ 64) (hw : w + xs.length ≤ 60000) (hu : u' ≤ 166000) : ∃ t2 v, cf_126 N X (Int32.ofNat 1) (Int32.ofNat (w + xs.length)) t' = some (t2, .inl (some (.long v))) ∧ cG t t2 u (u' + 1 + zs.length) w xs ∧ cN (cel t2) (u' + 1 + zs.length) v (nR zs) ∧ kI t2 58 1 = kI t' 58 1 := by
  obtain ⟨h1, h3, h4, h5, h6, h7⟩ := H
  have hl : (zs.map nZ).length = zs.length := List.length_map ..
  have h1' : cHp t' u' (w + xs.length + (zs.map nZ).length) := by rw [List.length_append, ← Nat.add_assoc] at h1; exact h1
  have hr : reps (cel t') u' (prt t') (w + xs.length) (zs.map nZ) := fun i hi => by
    have z := h7 (xs.length + i) (by rw [List.length_append]; omega)
    rw [List.getElem_append_right (by omega)] at z
    simp only [Nat.add_sub_cancel_left] at z
    rw [Nat.add_assoc]
    exact z
  have hm : mk 1 (zs.map nZ) = some (mkR (zs.map nZ)) := by
    show (if (zs.map nZ).length ≤ 64 then some (mkR (zs.map nZ)) else none) = _
    rw [hl, if_pos hz]
  rcases c_build (N := N) (X := X) (k := 1) hN (Or.inl ⟨rfl, fun x hx => by obtain ⟨z, -, rfl⟩ := List.mem_map.mp hx; rfl⟩) h1' hr (fun x hx => by obtain ⟨z, -, rfl⟩ := List.mem_map.mp hx; exact trivial) (fun x hx => by obtain ⟨z, -, rfl⟩ := List.mem_map.mp hx; exact Nat.zero_le _) (by omega) (by omega) hu with ⟨y, e1, t2, v, e2, ⟨b1, b2, b3, b4, b5⟩, e4⟩ | ⟨e1, -⟩
  · rw [hm] at e1
    cases e1
    rw [hl] at b1 e4
    have e4' : cN (cel t2) (u' + 1 + zs.length) v (nR zs) := by
      refine cN_iff.mpr ?_
      rw [← mkR_Z]
      exact cN_iff.mp e4
    refine ⟨t2, v, e2, ⟨b1, hfw.tr h3 b2.w, by omega, fun y hy => (b4 y (by omega)).trans (h5 y hy), fun y hy => (b5 y (by omega)).trans (h6 y hy), fun i hi => ?_⟩, e4', b2.1 58 1 (by omega)⟩
    rw [b5 _ (by omega)]
    have z := h7 i (by rw [List.length_append]; omega)
    rw [List.getElem_append_left hi] at z
    exact cN.mono b4 (by omega) z
  · rw [hm] at e1
    cases e1
theorem cG.comp (H : cG t t' u u' w xs) (H2 : cG t' t2 u' u2 (w + xs.length) []) : cG t t2 u u2 w xs := by
  obtain ⟨h1, h2, h3, h4, h5, h6⟩ := H
  obtain ⟨g1, g2, g3, g4, g5, g6⟩ := H2
  refine ⟨g1, hfw.tr h2 g2, by omega, fun y hy => (g4 y (by omega)).trans (h4 y hy), fun y hy => (g5 y (by omega)).trans (h5 y hy), fun i hi => ?_⟩
  rw [g5 _ (by omega)]
  exact cN.mono g4 g3 (h6 i hi)
theorem cG.flag (H : cG t t' u u' w xs) (z : Int32) : cG t (jI t' 58 1 z) u u' w xs := by
  obtain ⟨h1, h2, h3, h4, h5, h6⟩ := H
  exact ⟨h1, hfw.tr h2 ⟨fun k f r r' => if_neg r', rfl, rfl, fun _ _ _ _ => ⟨fun _ => rfl, rfl, rfl⟩, rfl, rfl, Nat.le_refl _, Nat.le_refl _, Nat.le_refl _, rfl⟩, h3, h4, h5, h6⟩
theorem opC.up (H : cG t t' u u' w xs) (h : opC (cel t) u v p) : opC (cel t') u' v p := by
  cases p with
  | inl z => exact h
  | inr r =>
    have z := H.up (x := nR r) (v := v) (cN_iff.mpr h)
    exact cN_iff.mp z
theorem c_at (hh : cHp t u w) (h : opC (cel t) u v p) (hj : ∀ r, p = .inr r → j < r.length) : cf_130 N X v (Int32.ofNat j) t = some (t, .inl (some (.int (at2 p j)))) := by
  cases p with
  | inl z =>
    have h : v = tg 0 z := h
    rw [h]
    exact c_intAt0
  | inr r =>
    have hj := hj r rfl
    rw [c_intAt hh h hj]
    have e : at2 (.inr r) j = r[j] := by
      show r.getD j 0 = _
      rw [List.getD_eq_getElem?_getD, List.getElem?_eq_getElem hj]
      rfl
    rw [e]
theorem c_opn (hh : cHp t u w) (h : cN (cel t) u v x) (h3 : kn x ≤ 2) (hi : kn x = 2 → i < szN x) : ∃ v', cf_229 N X v (Int32.ofNat i) t = some (t, .inl (some (.long v'))) ∧ opC (cel t) u v' (bsd x i) := by
  have kx := c_kn (N := N) (X := X) h
  have V := cN_iff.mp h
  by_cases c : kn x = 2
  · obtain ⟨q, e⟩ := kn2 c
    have hsq : szN x = q.length := by show szV (vw x) = _; rw [e]; rfl
    have hi := hi c
    rw [hsq] at hi
    rw [e] at V
    obtain ⟨v', a1, a2⟩ := c_partT (N := N) (X := X) hh V hi
    refine ⟨v', ?_, ?_⟩
    · rw [c] at kx
      unfold cf_229 cf_229_0 cf_229_4 cf_229_8 cf_229_17 cf_229_21
      simp (disch := omega) only [ev_S, ev_C, ↓reduceIte, Nat.reduceEqDiff, Nat.reduceLeDiff, Nat.reduceAdd, Nat.reduceMul, Nat.reduceSub, reduceCtorEq, l32_0, l32_1, l32_2, l32_3, l32_4, l32_5, l32_6, l32_7, l32_8, l32_9, l32_10, l32_11, l32_12, l32_13, l32_14, l32_15, l32_16, l32_17, l32_18, l32_19, l32_20, l32_21, l32_22, l32_23, l32_24, l32_25, l32_26, l32_27, l32_28, l32_29, l32_33, l32_40, l32_41, l32_44, l32_45, l32_59, l32_61, l32_91, l32_93, l32_123, l32_125, kx, a1]
    · show opC _ _ _ (bsdV (vw x) i)
      rw [e]
      show cV _ _ _ (vR (q.getD i []))
      rw [List.getD_eq_getElem?_getD, List.getElem?_eq_getElem hi]
      exact cN_iff.mp a2
  · refine ⟨v, ?_, ?_⟩
    · generalize kn x = kk at *
      unfold cf_229 cf_229_0 cf_229_4 cf_229_20 cf_229_21
      simp (disch := omega) only [ev_S, ev_C, ↓reduceIte, Nat.reduceEqDiff, Nat.reduceLeDiff, Nat.reduceAdd, Nat.reduceMul, Nat.reduceSub, reduceCtorEq, l32_0, l32_1, l32_2, l32_3, l32_4, l32_5, l32_6, l32_7, l32_8, l32_9, l32_10, l32_11, l32_12, l32_13, l32_14, l32_15, l32_16, l32_17, l32_18, l32_19, l32_20, l32_21, l32_22, l32_23, l32_24, l32_25, l32_26, l32_27, l32_28, l32_29, l32_33, l32_40, l32_41, l32_44, l32_45, l32_59, l32_61, l32_91, l32_93, l32_123, l32_125, kx, c]
    · show opC _ _ _ (bsdV (vw x) i)
      by_cases d : kn x = 0
      · rw [kn0 d] at V ⊢
        exact V
      · have e := kn1 (x := x) (by omega)
        rw [e] at V ⊢
        exact V
theorem c_rows (hN : 170000 ≤ N) (hs : isS sg) (hh : cHp t u w) (ox : opC (cel t) u vx p) (oy : opC (cel t) u vy q) (hR : rsz p q = L) (hp : ∀ r, p = .inr r → r.length = L) (hq : ∀ r, q = .inr r → r.length = L) (hpq : (∃ r, p = .inr r) ∨ ∃ r, q = .inr r) (hL : L ≤ 64) (hw : w ≤ 2000) (hu : u ≤ 164000) : ∃ t2 v, cf_228 N X (Int32.ofNat (sgC sg)) vx vy t = some (t2, .inl (some (.long v))) ∧ cG t t2 u (u + 1 + L) w [] ∧ cN (cel t2) (u + 1 + L) v (nR (row2 sg p q)) ∧ kI t2 58 1 = (if bad2 sg p q = true then 1 else kI t 58 1) := by
  have ga := c_gathered (N := N) (X := X) hh
  have E1 : cf_228 N X (Int32.ofNat (sgC sg)) vx vy t = cf_228_L2 N X N 0 (Int32.ofNat (sgC sg)) vx vy (Int32.ofNat L) (Int32.ofNat w) (Int32.ofNat 0) t := by
    cases p with
    | inl z =>
      have ox : vx = tg 0 z := ox
      rcases hpq with ⟨r, hr⟩ | ⟨r, hr⟩
      · cases hr
      · subst hr
        have kx := c_kindOf (N := N) (X := X) (t := t) (k := 0) (a := z)
        rw [← ox] at kx
        have zy := c_size (N := N) (X := X) (x := nR r) hh (cN_iff.mpr oy)
        have zy : cf_128 N X vy t = some (t, .inl (some (.int (Int32.ofNat r.length)))) := zy
        rw [hq r rfl] at zy
        unfold cf_228 cf_228_0 cf_228_8 cf_228_16 cf_228_18 cf_228_21 cf_228_30
        simp (disch := omega) only [ev_S, ev_C, ↓reduceIte, Nat.reduceEqDiff, Nat.reduceLeDiff, Nat.reduceAdd, Nat.reduceMul, Nat.reduceSub, reduceCtorEq, l32_0, l32_1, l32_2, l32_3, l32_4, l32_5, l32_6, l32_7, l32_8, l32_9, l32_10, l32_11, l32_12, l32_13, l32_14, l32_15, l32_16, l32_17, l32_18, l32_19, l32_20, l32_21, l32_22, l32_23, l32_24, l32_25, l32_26, l32_27, l32_28, l32_29, l32_33, l32_40, l32_41, l32_44, l32_45, l32_59, l32_61, l32_91, l32_93, l32_123, l32_125, kx, zy, ga]
    | inr r =>
      have kx := c_kn (N := N) (X := X) (x := nR r) (v := vx) (t := t) (u := u) (cN_iff.mpr ox)
      have kx : cf_255 N X vx t = some (t, .inl (some (.int (Int32.ofNat 1)))) := kx
      have zx := c_size (N := N) (X := X) (x := nR r) hh (cN_iff.mpr ox)
      have zx : cf_128 N X vx t = some (t, .inl (some (.int (Int32.ofNat r.length)))) := zx
      rw [hp r rfl] at zx
      unfold cf_228 cf_228_0 cf_228_8 cf_228_12 cf_228_18 cf_228_21 cf_228_30
      simp (disch := omega) only [ev_S, ev_C, ↓reduceIte, Nat.reduceEqDiff, Nat.reduceLeDiff, Nat.reduceAdd, Nat.reduceMul, Nat.reduceSub, reduceCtorEq, l32_0, l32_1, l32_2, l32_3, l32_4, l32_5, l32_6, l32_7, l32_8, l32_9, l32_10, l32_11, l32_12, l32_13, l32_14, l32_15, l32_16, l32_17, l32_18, l32_19, l32_20, l32_21, l32_22, l32_23, l32_24, l32_25, l32_26, l32_27, l32_28, l32_29, l32_33, l32_40, l32_41, l32_44, l32_45, l32_59, l32_61, l32_91, l32_93, l32_123, l32_125, kx, zx, ga]
  rw [E1]
  refine lp (fun F j (t' : cS) => cf_228_L2 N X F 0 (Int32.ofNat (sgC sg)) vx vy (Int32.ofNat L) (Int32.ofNat w) (Int32.ofNat j) t') L (fun j t' => cG t t' u u w (((List.range j).map fun j => ac sg (at2 p j) (at2 q j)).map nZ) ∧ kI t' 58 1 = (if ((List.range j).any fun j => dv sg && (at2 q j == 0)) = true then 1 else kI t 58 1)) (fun R => ∃ t2 v, R = some (t2, .inl (some (.long v))) ∧ cG t t2 u (u + 1 + L) w [] ∧ cN (cel t2) (u + 1 + L) v (nR (row2 sg p q)) ∧ kI t2 58 1 = (if bad2 sg p q = true then 1 else kI t 58 1)) ?_ ?_ L 0 N t (Nat.zero_add _) (by omega) ⟨cG.nil hh, rfl⟩
  · intro F j t1 hj hP _
    left
    obtain ⟨G, hfl⟩ := hP
    have n1 : ¬ L ≤ j := by omega
    have hll : (((List.range j).map fun j => ac sg (at2 p j) (at2 q j)).map nZ).length = j := by rw [List.length_map, List.length_map, List.length_range]
    have a1 := c_at (N := N) (X := X) (j := j) G.c (opC.up G ox) (fun r hr => by rw [hp r hr]; exact hj)
    have a2 := c_at (N := N) (X := X) (j := j) G.c (opC.up G oy) (fun r hr => by rw [hq r hr]; exact hj)
    have a3 := c_act (N := N) (X := X) (t := t1) (sg := sg) hs (a := at2 p j) (b := at2 q j)
    obtain ⟨t3, ht3⟩ : ∃ t3, t3 = if (dv sg && (at2 q j == 0)) = true then jI t1 58 1 1 else t1 := ⟨_, rfl⟩
    rw [← ht3] at a3
    have G3 : cG t t3 u u w (((List.range j).map fun j => ac sg (at2 p j) (at2 q j)).map nZ) := by
      rw [ht3]
      split
      · exact G.flag 1
      · exact G
    obtain ⟨t4, p1, p2, p3⟩ := cG.put' (N := N) (X := X) G3 (by rw [hll]; omega) (cN_Z (z := ac sg (at2 p j) (at2 q j)))
    have th := c_thing (N := N) (X := X) (t := t3) (k := Int32.ofNat 0) (a := ac sg (at2 p j) (at2 q j))
    refine ⟨t4, ⟨?_, ?_⟩, ?_⟩
    · rw [range_map_s, List.map_append]
      exact p2
    · rw [p3, any_s, ht3]
      by_cases c : (dv sg && (at2 q j == 0)) = true
      · rw [if_pos c, c, Bool.or_true, if_pos rfl]
        rfl
      · rw [if_neg c, Bool.eq_false_iff.mpr c, Bool.or_false]
        exact hfl
    · show cf_228_35 N X (cf_228_L2 N X F) (Int32.ofNat (sgC sg)) vx vy (Int32.ofNat L) (Int32.ofNat w) (Int32.ofNat j) t1 = _
      have p1 : cf_123 N X (tg (Int32.ofNat 0) (ac sg (at2 p j) (at2 q j))) t3 = some (t4, .inl none) := p1
      generalize sgC sg = sc at *
      unfold cf_228_35 cf_228_42 cf_228_59 cf_228_70 cf_228_73 cf_228_76 cf_228_79
      simp (disch := omega) only [ev_S, ev_C, ↓reduceIte, Nat.reduceEqDiff, Nat.reduceLeDiff, Nat.reduceAdd, Nat.reduceMul, Nat.reduceSub, reduceCtorEq, l32_0, l32_1, l32_2, l32_3, l32_4, l32_5, l32_6, l32_7, l32_8, l32_9, l32_10, l32_11, l32_12, l32_13, l32_14, l32_15, l32_16, l32_17, l32_18, l32_19, l32_20, l32_21, l32_22, l32_23, l32_24, l32_25, l32_26, l32_27, l32_28, l32_29, l32_33, l32_40, l32_41, l32_44, l32_45, l32_59, l32_61, l32_91, l32_93, l32_123, l32_125, n1, a1, a2, a3, th, p1]
  · intro F t1 hP
    obtain ⟨G, hfl⟩ := hP
    have hl : ((List.range L).map fun j => ac sg (at2 p j) (at2 q j)).length = L := by rw [List.length_map, List.length_range]
    obtain ⟨t2, v, b1, b2, b3, b4⟩ := cG.rowV (N := N) (X := X) (xs := []) (t := t) (t' := t1) hN (by rw [List.nil_append]; exact G) (by rw [hl]; exact hL) (by show w + 0 ≤ 60000; omega) (by omega)
    rw [hl] at b2 b3
    refine ⟨t2, v, ?_, b2, ?_, ?_⟩
    · have b1 : cf_126 N X (Int32.ofNat 1) (Int32.ofNat w) t1 = some (t2, .inl (some (.long v))) := b1
      show cf_228_35 N X (cf_228_L2 N X F) (Int32.ofNat (sgC sg)) vx vy (Int32.ofNat L) (Int32.ofNat w) (Int32.ofNat L) t1 = _
      unfold cf_228_35 cf_228_85 cf_228_95
      simp (disch := omega) only [ev_S, ev_C, ↓reduceIte, Nat.reduceEqDiff, Nat.reduceLeDiff, Nat.reduceAdd, Nat.reduceMul, Nat.reduceSub, reduceCtorEq, l32_0, l32_1, l32_2, l32_3, l32_4, l32_5, l32_6, l32_7, l32_8, l32_9, l32_10, l32_11, l32_12, l32_13, l32_14, l32_15, l32_16, l32_17, l32_18, l32_19, l32_20, l32_21, l32_22, l32_23, l32_24, l32_25, l32_26, l32_27, l32_28, l32_29, l32_33, l32_40, l32_41, l32_44, l32_45, l32_59, l32_61, l32_91, l32_93, l32_123, l32_125, b1]
    · unfold row2
      rw [hR]
      exact b3
    · rw [b4, hfl]
      unfold bad2
      rw [hR]
end TWC
