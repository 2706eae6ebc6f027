/-! ===== PURE: run (53): flat: the class; turn ===== -/
section FLC
variable {N : Nat} {X : Nat → Option zz_C} {s s' : mS} {t t' t2 : cS} {n f f' m a i u u' u2 w : Nat} {x y : Nod} {xs ys : List Nod} {vx v : Int64}
theorem cG.app (G : cG t t' u u' w xs) (G2 : cG t' t2 u' u2 (w + xs.length) ys) : cG t t2 u u2 w (xs ++ ys) := by
  obtain ⟨h1, h2, h3, h4, h5, h6⟩ := G
  obtain ⟨g1, g2, g3, g4, g5, g6⟩ := G2
  refine ⟨by rw [List.length_append, ← Nat.add_assoc]; exact g1, hfw.tr h2 g2, by omega, fun y hy => (g4 y (by omega)).trans (h4 y hy), fun y hy => (g5 y (by omega)).trans (h5 y hy), fun i hi => ?_⟩
  by_cases c : i < xs.length
  · rw [List.getElem_append_left c, g5 _ (by omega)]
    exact cN.mono g4 g3 (h6 i c)
  · rw [List.getElem_append_right (by omega)]
    rw [List.length_append] at hi
    have z := g6 (i - xs.length) (by omega)
    rw [show w + xs.length + (i - xs.length) = w + i by omega] at z
    exact z
theorem c_flt (hN : 170000 ≤ N) (hh : cHp t u w) (hx : cN (cel t) u vx x) (wx : wfN x) (dx : x.1 ≤ 4) (hu : u ≤ 162000) (hw : w ≤ 1000) : ∃ t' v, cf_103 N X vx t = some (t', .inl (some (.long v))) ∧ cE t t' u v (if kn x < 2 then .inl 3 else ansFl x) := by
  have kx := c_kn (N := N) (X := X) hx
  have lx := kn_le (x := x)
  by_cases c : kn x < 2
  · rw [if_pos c]
    refine ⟨t, _, ?_, cE.tr hh⟩
    have b1 := c_rf (N := N) (X := X) (t := t) (k := Int32.ofNat 3)
    have c' : ¬ 2 ≤ kn x := by omega
    generalize kn x = kx' at *
    unfold cf_103 cf_103_0 cf_103_4 cf_103_8 cf_103_12
    simp (disch := omega) only [ev_S, ev_C, ↓reduceIte, Nat.reduceEqDiff, Nat.reduceLeDiff, Nat.reduceAdd, Nat.reduceMul, Nat.reduceSub, reduceCtorEq, l32_0, l32_1, l32_2, l32_3, l32_4, l32_5, l32_6, l32_7, l32_8, l32_9, l32_10, l32_11, l32_12, l32_13, l32_14, l32_15, l32_16, l32_17, l32_18, l32_19, l32_20, l32_21, l32_22, l32_23, l32_24, l32_25, l32_26, l32_27, l32_28, l32_29, l32_33, l32_40, l32_41, l32_44, l32_45, l32_59, l32_61, l32_91, l32_93, l32_123, l32_125, kx, c', b1]
  · rw [if_neg c]
    have zx := c_sizeN (N := N) (X := X) hh hx
    have ga := c_gathered (N := N) (X := X) hh
    have hpl : (pts x).length = szN x := pts_len
    have s64 := wf64 wx
    rw [← hpl] at zx
    have E1 : cf_103 N X vx t = cf_103_L4 N X N 0 vx (Int32.ofNat (pts x).length) (Int32.ofNat w) (Int32.ofNat 0) t := by
      have c' : 2 ≤ kn x := by omega
      generalize kn x = kx' at *
      unfold cf_103 cf_103_0 cf_103_4 cf_103_13 cf_103_21 cf_103_29
      simp (disch := omega) only [ev_S, ev_C, ↓reduceIte, Nat.reduceEqDiff, Nat.reduceLeDiff, Nat.reduceAdd, Nat.reduceMul, Nat.reduceSub, reduceCtorEq, l32_0, l32_1, l32_2, l32_3, l32_4, l32_5, l32_6, l32_7, l32_8, l32_9, l32_10, l32_11, l32_12, l32_13, l32_14, l32_15, l32_16, l32_17, l32_18, l32_19, l32_20, l32_21, l32_22, l32_23, l32_24, l32_25, l32_26, l32_27, l32_28, l32_29, l32_33, l32_40, l32_41, l32_44, l32_45, l32_59, l32_61, l32_91, l32_93, l32_123, l32_125, kx, c', zx, ga]
    rw [E1]
    have hwp : ∀ i (hi : i < (pts x).length), wfN (pts x)[i] := fun i hi => wf_pts wx _ (List.getElem_mem hi)
    have hsb : ∀ i, i ≤ (pts x).length → (((pts x).take i).flatMap (jnN 1)).length ≤ 64 * i := fun i => by
      induction i with
      | zero => intro _; exact Nat.le_refl _
      | succ i ih =>
        intro hi
        have hi' : i < (pts x).length := by omega
        have h1 := ih (by omega)
        have h2 := jnN_len (k := 1) (hwp i hi')
        rw [fl_take hi', List.length_append]
        omega
    unfold ansFl
    refine lp (fun F i (t' : cS) => cf_103_L4 N X F 0 vx (Int32.ofNat (pts x).length) (Int32.ofNat w) (Int32.ofNat i) t') (pts x).length (fun i t' => cG t t' u u w (((pts x).take i).flatMap (jnN 1)) ∧ ∀ p ∈ (pts x).take i, ¬ 1 < kn p) (fun R => ∃ t' v, R = some (t', .inl (some (.long v))) ∧ cE t t' u v (if ((pts x).any fun p => decide (1 < kn p)) = true then .inl 3 else ansM 1 ((pts x).flatMap (jnN 1)))) ?_ ?_ (pts x).length 0 N t (Nat.zero_add _) (by omega) ⟨cG.nil hh, fun p hp => absurd hp List.not_mem_nil⟩
    · intro F i t1 hi hP _
      obtain ⟨G, P2⟩ := hP
      have n1 : ¬ (pts x).length ≤ i := by omega
      have hl := hsb i (by omega)
      obtain ⟨v', d1, d2⟩ := c_part (N := N) (X := X) G.c (G.up hx) (i := i) hi
      have kp := c_kn (N := N) (X := X) d2
      have lp' := kn_le (x := (pts x)[i])
      by_cases k1 : 1 < kn (pts x)[i]
      · right
        rw [if_pos (any_mem hi (decide_eq_true k1))]
        refine ⟨t1, _, ?_, cG.tr G (by omega)⟩
        have b1 := c_rf (N := N) (X := X) (t := t1) (k := Int32.ofNat 3)
        have k1' : ¬ kn (pts x)[i] ≤ 1 := by omega
        generalize kn (pts x)[i] = kk at *
        show cf_103_34 N X (cf_103_L4 N X F) vx (Int32.ofNat (pts x).length) (Int32.ofNat w) (Int32.ofNat i) t1 = _
        unfold cf_103_34 cf_103_40 cf_103_50 cf_103_57 cf_103_61 cf_103_65
        simp (disch := omega) only [ev_S, ev_C, ↓reduceIte, Nat.reduceEqDiff, Nat.reduceLeDiff, Nat.reduceAdd, Nat.reduceMul, Nat.reduceSub, reduceCtorEq, l32_0, l32_1, l32_2, l32_3, l32_4, l32_5, l32_6, l32_7, l32_8, l32_9, l32_10, l32_11, l32_12, l32_13, l32_14, l32_15, l32_16, l32_17, l32_18, l32_19, l32_20, l32_21, l32_22, l32_23, l32_24, l32_25, l32_26, l32_27, l32_28, l32_29, l32_33, l32_40, l32_41, l32_44, l32_45, l32_59, l32_61, l32_91, l32_93, l32_123, l32_125, n1, d1, kp, k1', b1]
      · left
        obtain ⟨t2, e1, e2⟩ := cG.into (N := N) (X := X) (k := 1) hN (cG.nil G.c) d2 (hwp i hi) (by omega) (by rw [List.length_nil]; omega)
        rw [List.nil_append] at e2
        refine ⟨t2, ⟨?_, fun p hp => ?_⟩, ?_⟩
        · rw [fl_take hi]
          exact cG.app G e2
        · rw [List.take_succ_eq_append_getElem hi] at hp
          rcases List.mem_append.mp hp with hp | hp
          · exact P2 p hp
          · rw [List.mem_singleton.mp hp]
            exact k1
        · have k1' : kn (pts x)[i] ≤ 1 := by omega
          generalize kn (pts x)[i] = kk at *
          show cf_103_34 N X (cf_103_L4 N X F) vx (Int32.ofNat (pts x).length) (Int32.ofNat w) (Int32.ofNat i) t1 = _
          unfold cf_103_34 cf_103_40 cf_103_50 cf_103_57 cf_103_66 cf_103_76
          simp (disch := omega) only [ev_S, ev_C, ↓reduceIte, Nat.reduceEqDiff, Nat.reduceLeDiff, Nat.reduceAdd, Nat.reduceMul, Nat.reduceSub, reduceCtorEq, l32_0, l32_1, l32_2, l32_3, l32_4, l32_5, l32_6, l32_7, l32_8, l32_9, l32_10, l32_11, l32_12, l32_13, l32_14, l32_15, l32_16, l32_17, l32_18, l32_19, l32_20, l32_21, l32_22, l32_23, l32_24, l32_25, l32_26, l32_27, l32_28, l32_29, l32_33, l32_40, l32_41, l32_44, l32_45, l32_59, l32_61, l32_91, l32_93, l32_123, l32_125, n1, d1, kp, k1', e1]
    · intro F t1 hP
      obtain ⟨G, P2⟩ := hP
      rw [List.take_length] at G P2
      have hno : ((pts x).any fun p => decide (1 < kn p)) = false := by
        cases hany : (pts x).any fun p => decide (1 < kn p) with
        | false => rfl
        | true =>
          obtain ⟨p, hp, h1⟩ := List.any_eq_true.mp hany
          exact absurd (decide_eq_true_iff.mp h1) (P2 p hp)
      rw [hno, if_neg (by intro h; cases h)]
      have ok := fl_ok hno wx dx
      have hl := hsb (pts x).length (Nat.le_refl _)
      rw [List.take_length] at hl
      obtain ⟨t2, v, b1, b2⟩ := cG.build (N := N) (X := X) (k := 1) hN G (Or.inl ⟨rfl, ok.1⟩) ok.2.1 ok.2.2 (by
        have : (pts x).length ≤ 20 := by
          have wv := vw_wf x wx
          have hk2 : kn x = 2 ∨ kn x = 3 := by omega
          rcases hk2 with hk | hk
          · rw [hpl, kn2_sz hk]
            exact (tv_wf hk wx).1
          · obtain ⟨k, l, e0⟩ := kn3 hk
            rw [e0] at wv
            show (ptsV (vw x)).length ≤ 20
            rw [e0]
            show (l.map fun y => (⟨k, y⟩ : Nod)).length ≤ 20
            rw [List.length_map]
            exact wv.1
        omega) (by omega) (by omega) (by omega) (by omega)
      refine ⟨t2, v, ?_, b2⟩
      show cf_103_34 N X (cf_103_L4 N X F) vx (Int32.ofNat (pts x).length) (Int32.ofNat w) (Int32.ofNat (pts x).length) t1 = _
      unfold cf_103_34 cf_103_82 cf_103_92
      simp (disch := omega) only [ev_S, ev_C, ↓reduceIte, Nat.reduceEqDiff, Nat.reduceLeDiff, Nat.reduceAdd, Nat.reduceMul, Nat.reduceSub, reduceCtorEq, l32_0, l32_1, l32_2, l32_3, l32_4, l32_5, l32_6, l32_7, l32_8, l32_9, l32_10, l32_11, l32_12, l32_13, l32_14, l32_15, l32_16, l32_17, l32_18, l32_19, l32_20, l32_21, l32_22, l32_23, l32_24, l32_25, l32_26, l32_27, l32_28, l32_29, l32_33, l32_40, l32_41, l32_44, l32_45, l32_59, l32_61, l32_91, l32_93, l32_123, l32_125, b1]
end FLC
/-- column j of a TABLE -/
def col (q : List (List Int32)) (j : Nat) : List Int32 := q.flatMap fun r => if j < r.length then [r.getD j 0] else []
def wid (q : List (List Int32)) : Nat := mxL (q.map List.length)
def ansTr (q : List (List Int32)) : Ans := if 20 < wid q then .inl 2 else ansM 2 (((List.range (wid q)).map (col q)).map nR)
section TRN
variable {q : List (List Int32)} {i j : Nat}
theorem mxa (l : List Nat) (y : Nat) : mxL (l ++ [y]) = Nat.max (mxL l) y := by
  induction l with
  | nil =>
    show Nat.max y 0 = Nat.max 0 y
    rw [show Nat.max y 0 = y from Nat.max_eq_left (Nat.zero_le _), show Nat.max 0 y = y from Nat.max_eq_right (Nat.zero_le _)]
  | cons z l ih =>
    show Nat.max z (mxL (l ++ [y])) = Nat.max (Nat.max z (mxL l)) y
    rw [ih]
    exact (Nat.max_assoc _ _ _).symm
theorem wid_s (hi : i < q.length) : wid (q.take (i + 1)) = Nat.max (wid (q.take i)) q[i].length := by
  unfold wid
  rw [take_map_s hi, mxa]
theorem wid_le {m : Nat} (h : ∀ r ∈ q, r.length ≤ m) : wid q ≤ m := mxL_le.mpr (fun y hy => by
  obtain ⟨r, hr, rfl⟩ := List.mem_map.mp hy
  exact h r hr)
theorem col_s (hi : i < q.length) : col (q.take (i + 1)) j = col (q.take i) j ++ (if j < q[i].length then [q[i].getD j 0] else []) := by
  unfold col
  rw [List.take_succ_eq_append_getElem hi, List.flatMap_append, List.flatMap_cons, List.flatMap_nil, List.append_nil]
theorem col_len : (col q j).length ≤ q.length := by
  unfold col
  induction q with
  | nil => exact Nat.le_refl _
  | cons r q ih =>
    rw [List.flatMap_cons, List.length_append, List.length_cons]
    have : (if j < r.length then [r.getD j 0] else ([] : List Int32)).length ≤ 1 := by
      split
      · exact Nat.le_refl _
      · exact Nat.zero_le _
    omega
/-- all columns up to j hold no more than the rows -/
theorem col_sum : ∀ (q : List (List Int32)) (k : Nat), (((List.range k).map (col q)).map List.length).sum ≤ (q.map List.length).sum := fun q k => by
  induction q with
  | nil =>
    have : ∀ k, (((List.range k).map (col [])).map List.length).sum = 0 := fun k => by
      induction k with
      | zero => rfl
      | succ k ih =>
        rw [range_map_s, List.map_append, List.sum_append, ih]
        rfl
    rw [this]
    exact Nat.zero_le _
  | cons r q ih =>
    have : ∀ k, (((List.range k).map (col (r :: q))).map List.length).sum = Nat.min k r.length + (((List.range k).map (col q)).map List.length).sum := fun k => by
      induction k with
      | zero =>
        rw [show Nat.min 0 r.length = 0 from Nat.min_eq_left (Nat.zero_le _)]
        rfl
      | succ k ih =>
        rw [range_map_s, List.map_append, List.sum_append, ih, range_map_s, List.map_append, List.sum_append]
        have e : (col (r :: q) k).length = (if k < r.length then 1 else 0) + (col q k).length := by
          unfold col
          rw [List.flatMap_cons, List.length_append]
          congr 1
          split <;> rfl
        show _ + ((col (r :: q) k).length + 0) = _ + (_ + ((col q k).length + 0))
        rw [e]
        have e2 : Nat.min (k + 1) r.length = Nat.min k r.length + if k < r.length then 1 else 0 := by
          by_cases c : k < r.length
          · rw [if_pos c, show Nat.min (k + 1) r.length = k + 1 from Nat.min_eq_left (by omega), show Nat.min k r.length = k from Nat.min_eq_left (by omega)]
          · rw [if_neg c, show Nat.min (k + 1) r.length = r.length from Nat.min_eq_right (by omega), show Nat.min k r.length = r.length from Nat.min_eq_right (by omega)]
            rfl
        rw [e2]
        omega
    rw [this, List.map_cons, List.sum_cons]
    have : Nat.min k r.length ≤ r.length := Nat.min_le_right _ _
    omega
end TRN
