/-! ===== PURE: run (30): the signs between two values, the class: two ===== -/
section TWG
variable {N sg : Nat} {X : Nat → Option zz_C} {t t' : cS} {u w : Nat} {x y : Nod} {vx vy : Int64}
theorem c_two (hN : 170000 ≤ N) (hs : isS sg) (hh : cHp t u w) (hx : cN (cel t) u vx x) (hy : cN (cel t) u vy y) (wx : wfN x) (wy : wfN y) (hu : u ≤ 162000) (hw : w ≤ 1000) : ∃ t' v, cf_222 N X (Int32.ofNat (sgC sg)) vx vy t = some (t', .inl (some (.long v))) ∧ cE t t' u v (ansT sg x y) := by
  have kx := c_kn (N := N) (X := X) hx
  have ky := c_kn (N := N) (X := X) hy
  have lx := kn_le (x := x)
  have ly := kn_le (x := y)
  have T := fun k => c_rf (N := N) (X := X) (t := t) (k := k)
  unfold ansT
  by_cases c3 : kn x = 3 ∨ kn y = 3
  · rw [if_pos c3]
    refine ⟨t, _, ?_, cE.tr hh⟩
    have b1 := T (Int32.ofNat 3)
    generalize kn x = kx' at *
    generalize kn y = ky' at *
    by_cases c : kx' = 3
    · unfold cf_222 cf_222_0 cf_222_4 cf_222_17 cf_222_21
      simp (disch := omega) only [ev_S, ev_C, ↓reduceIte, Nat.reduceEqDiff, Nat.reduceLeDiff, Nat.reduceAdd, Nat.reduceMul, Nat.reduceSub, reduceCtorEq, l32_0, l32_1, l32_2, l32_3, l32_4, l32_5, l32_6, l32_7, l32_8, l32_9, l32_10, l32_11, l32_12, l32_13, l32_14, l32_15, l32_16, l32_17, l32_18, l32_19, l32_20, l32_21, l32_22, l32_23, l32_24, l32_25, l32_26, l32_27, l32_28, l32_29, l32_33, l32_40, l32_41, l32_44, l32_45, l32_59, l32_61, l32_91, l32_93, l32_123, l32_125, kx, c, b1]
    · have d : ky' = 3 := by omega
      unfold cf_222 cf_222_0 cf_222_4 cf_222_8 cf_222_13 cf_222_17 cf_222_21
      simp (disch := omega) only [ev_S, ev_C, ↓reduceIte, Nat.reduceEqDiff, Nat.reduceLeDiff, Nat.reduceAdd, Nat.reduceMul, Nat.reduceSub, reduceCtorEq, l32_0, l32_1, l32_2, l32_3, l32_4, l32_5, l32_6, l32_7, l32_8, l32_9, l32_10, l32_11, l32_12, l32_13, l32_14, l32_15, l32_16, l32_17, l32_18, l32_19, l32_20, l32_21, l32_22, l32_23, l32_24, l32_25, l32_26, l32_27, l32_28, l32_29, l32_33, l32_40, l32_41, l32_44, l32_45, l32_59, l32_61, l32_91, l32_93, l32_123, l32_125, kx, ky, c, d, b1]
  · rw [if_neg c3]
    have h3 : kn x ≤ 2 := by omega
    have h3' : kn y ≤ 2 := by omega
    have un := c_unl (N := N) (X := X) hN hh hx hy wx wy h3 h3'
    obtain ⟨t0, ht0⟩ : ∃ t0, t0 = jI t 58 1 (Int32.ofNat 0) := ⟨_, rfl⟩
    have G0 : cG t t0 u u w [] := by rw [ht0]; exact (cG.nil hh).flag (Int32.ofNat 0)
    have hh0 : cHp t0 u w := G0.c
    have hx0 : cN (cel t0) u vx x := G0.up hx
    have hy0 : cN (cel t0) u vy y := G0.up hy
    have kx0 := c_kn (N := N) (X := X) hx0
    have ky0 := c_kn (N := N) (X := X) hy0
    have f0 : kI t0 58 1 = 0 := by rw [ht0]; rfl
    have x3 : ¬ kn x = 3 := by omega
    have y3 : ¬ kn y = 3 := by omega
    have E1 : unkT x y = false → cf_222 N X (Int32.ofNat (sgC sg)) vx vy t = cf_222_51 N X (Int32.ofNat (sgC sg)) vx vy (Int32.ofNat (kn x)) (Int32.ofNat (kn y)) t0 := fun huk => by
      rw [huk] at un
      have un : cf_226 N X vx vy t = some (t, .inl (some (.int (Int32.ofNat 0)))) := un
      rw [ht0] at kx0 ky0 ⊢
      generalize kn x = kx' at *
      generalize kn y = ky' at *
      generalize sgC sg = sc at *
      unfold cf_222 cf_222_0 cf_222_4 cf_222_8 cf_222_13 cf_222_22 cf_222_29 cf_222_37 cf_222_46
      simp (disch := omega) only [ev_S, ev_C, ↓reduceIte, Nat.reduceEqDiff, Nat.reduceLeDiff, Nat.reduceAdd, Nat.reduceMul, Nat.reduceSub, reduceCtorEq, l32_0, l32_1, l32_2, l32_3, l32_4, l32_5, l32_6, l32_7, l32_8, l32_9, l32_10, l32_11, l32_12, l32_13, l32_14, l32_15, l32_16, l32_17, l32_18, l32_19, l32_20, l32_21, l32_22, l32_23, l32_24, l32_25, l32_26, l32_27, l32_28, l32_29, l32_33, l32_40, l32_41, l32_44, l32_45, l32_59, l32_61, l32_91, l32_93, l32_123, l32_125, kx, ky, x3, y3, un, kx0, ky0]
    -- what was made, or the note of a division by 0
    have FIN : ∀ (t1 : cS) (v : Int64) (b : Bool) (r : Ans), cE t t1 u v r → kI t1 58 1 = (if b = true then 1 else 0) → ∃ t' v', cf_222_107 N X v t1 = some (t', .inl (some (.long v'))) ∧ cE t t' u v' (if b = true then .inl 6 else r) := by
      intro t1 v b r hE hb
      cases b with
      | false =>
        refine ⟨t1, v, ?_, hE⟩
        have hb : kI t1 58 1 = Int32.ofNat 0 := hb
        unfold cf_222_107 cf_222_124 cf_222_126
        simp (disch := omega) only [ev_S, ev_C, ↓reduceIte, Nat.reduceEqDiff, Nat.reduceLeDiff, Nat.reduceAdd, Nat.reduceMul, Nat.reduceSub, reduceCtorEq, l32_0, l32_1, l32_2, l32_3, l32_4, l32_5, l32_6, l32_7, l32_8, l32_9, l32_10, l32_11, l32_12, l32_13, l32_14, l32_15, l32_16, l32_17, l32_18, l32_19, l32_20, l32_21, l32_22, l32_23, l32_24, l32_25, l32_26, l32_27, l32_28, l32_29, l32_33, l32_40, l32_41, l32_44, l32_45, l32_59, l32_61, l32_91, l32_93, l32_123, l32_125, hb]
      | true =>
        refine ⟨t1, _, ?_, cE.ref hE⟩
        have hb : kI t1 58 1 = Int32.ofNat 1 := hb
        have b1 := c_rf (N := N) (X := X) (t := t1) (k := Int32.ofNat 6)
        unfold cf_222_107 cf_222_116 cf_222_121 cf_222_126
        simp (disch := omega) only [ev_S, ev_C, ↓reduceIte, Nat.reduceEqDiff, Nat.reduceLeDiff, Nat.reduceAdd, Nat.reduceMul, Nat.reduceSub, reduceCtorEq, l32_0, l32_1, l32_2, l32_3, l32_4, l32_5, l32_6, l32_7, l32_8, l32_9, l32_10, l32_11, l32_12, l32_13, l32_14, l32_15, l32_16, l32_17, l32_18, l32_19, l32_20, l32_21, l32_22, l32_23, l32_24, l32_25, l32_26, l32_27, l32_28, l32_29, l32_33, l32_40, l32_41, l32_44, l32_45, l32_59, l32_61, l32_91, l32_93, l32_123, l32_125, hb, b1]
    have UP : ∀ {t1 v r}, cE t0 t1 u v r → cE t t1 u v r := fun {t1 v r} h => by
      obtain ⟨u', w', h1, h2, h3, h4, h5⟩ := h
      exact ⟨u', w', h1, hfw.tr G0.2.1 h2, h3, fun y hy => (h4 y hy).trans (G0.2.2.2.1 y hy), h5⟩
    by_cases c0 : kn x = 0 ∧ kn y = 0
    · rw [if_pos c0, E1 (unk_0 (Or.inl c0.1))]
      have ex := hx.z c0.1
      have ey := hy.z c0.2
      have l1 := c_lowOf (N := N) (X := X) (t := t0) (k := 0) (a := ivN x)
      rw [← ex] at l1
      have l2 := c_lowOf (N := N) (X := X) (t := t0) (k := 0) (a := ivN y)
      rw [← ey] at l2
      have a3 := c_act (N := N) (X := X) (t := t0) (sg := sg) hs (a := ivN x) (b := ivN y)
      obtain ⟨t3, ht3⟩ : ∃ t3, t3 = if (dv sg && (ivN y == 0)) = true then jI t0 58 1 1 else t0 := ⟨_, rfl⟩
      rw [← ht3] at a3
      have G3 : cG t t3 u u w [] := by
        rw [ht3]
        split
        · exact G0.flag 1
        · exact G0
      have th := c_thing (N := N) (X := X) (t := t3) (k := Int32.ofNat 0) (a := ac sg (ivN x) (ivN y))
      have E2 : cf_222_51 N X (Int32.ofNat (sgC sg)) vx vy (Int32.ofNat (kn x)) (Int32.ofNat (kn y)) t0 = cf_222_107 N X (tg (Int32.ofNat 0) (ac sg (ivN x) (ivN y))) t3 := by
        rw [c0.1, c0.2]
        generalize sgC sg = sc at *
        unfold cf_222_51
        rw [if_neg (show ¬ ¬ (if (Int32.ofNat 0 : Int32) < Int32.ofNat 0 then Int32.ofNat 0 else Int32.ofNat 0) = 0 by decide)]
        unfold cf_222_61 cf_222_68 cf_222_73 cf_222_76 cf_222_79
        simp (disch := omega) only [ev_S, ev_C, ↓reduceIte, Nat.reduceEqDiff, Nat.reduceLeDiff, Nat.reduceAdd, Nat.reduceMul, Nat.reduceSub, reduceCtorEq, l32_0, l32_1, l32_2, l32_3, l32_4, l32_5, l32_6, l32_7, l32_8, l32_9, l32_10, l32_11, l32_12, l32_13, l32_14, l32_15, l32_16, l32_17, l32_18, l32_19, l32_20, l32_21, l32_22, l32_23, l32_24, l32_25, l32_26, l32_27, l32_28, l32_29, l32_33, l32_40, l32_41, l32_44, l32_45, l32_59, l32_61, l32_91, l32_93, l32_123, l32_125, l1, l2, a3, th]
      rw [E2]
      have F := FIN t3 (tg (Int32.ofNat 0) (ac sg (ivN x) (ivN y))) (dv sg && (ivN y == 0)) (.inr (nZ (ac sg (ivN x) (ivN y)))) ⟨u, _, G3.1, G3.2.1, Nat.le_refl _, G3.2.2.2.1, cN_Z, Nat.le_add_right _ _, trivial, Nat.zero_le _⟩ (by
        rw [ht3]
        by_cases c : (dv sg && (ivN y == 0)) = true
        · rw [if_pos c, if_pos c]
          rfl
        · rw [if_neg c, if_neg c]
          exact f0)
      exact F
    · rw [if_neg c0]
      cases huk : unkT x y with
      | true =>
        rw [if_pos rfl]
        rw [huk] at un
        have un : cf_226 N X vx vy t = some (t, .inl (some (.int (Int32.ofNat 1)))) := un
        refine ⟨t, _, ?_, cE.tr hh⟩
        have b1 := T (Int32.ofNat 4)
        generalize kn x = kx' at *
        generalize kn y = ky' at *
        generalize sgC sg = sc at *
        unfold cf_222 cf_222_0 cf_222_4 cf_222_8 cf_222_13 cf_222_22 cf_222_29 cf_222_32 cf_222_36
        simp (disch := omega) only [ev_S, ev_C, ↓reduceIte, Nat.reduceEqDiff, Nat.reduceLeDiff, Nat.reduceAdd, Nat.reduceMul, Nat.reduceSub, reduceCtorEq, l32_0, l32_1, l32_2, l32_3, l32_4, l32_5, l32_6, l32_7, l32_8, l32_9, l32_10, l32_11, l32_12, l32_13, l32_14, l32_15, l32_16, l32_17, l32_18, l32_19, l32_20, l32_21, l32_22, l32_23, l32_24, l32_25, l32_26, l32_27, l32_28, l32_29, l32_33, l32_40, l32_41, l32_44, l32_45, l32_59, l32_61, l32_91, l32_93, l32_123, l32_125, kx, ky, x3, y3, un, b1]
      | false =>
        rw [if_neg (by intro h; cases h), E1 huk]
        by_cases ct : kn x = 2 ∨ kn y = 2
        · rw [if_pos ct]
          obtain ⟨t1, v, e1, e2, e3⟩ := c_tabs (N := N) (X := X) hN hs hh0 hx0 hy0 wx wy h3 h3' ct huk hu hw f0
          have E2 : cf_222_51 N X (Int32.ofNat (sgC sg)) vx vy (Int32.ofNat (kn x)) (Int32.ofNat (kn y)) t0 = cf_222_107 N X v t1 := by
            have e : (if Int32.ofNat (kn x) < Int32.ofNat (kn y) then Int32.ofNat (kn y) else Int32.ofNat (kn x)) = Int32.ofNat 2 := by
              by_cases c : kn x < kn y
              · rw [if_pos ((i32lt (by omega) (by omega)).mpr c)]
                rw [show kn y = 2 by omega]
              · rw [if_neg (fun z => c ((i32lt (by omega) (by omega)).mp z))]
                rw [show kn x = 2 by omega]
            unfold cf_222_51
            rw [e, if_pos (by decide)]
            generalize sgC sg = sc at *
            unfold cf_222_82 cf_222_99
            simp (disch := omega) only [ev_S, ev_C, ↓reduceIte, Nat.reduceEqDiff, Nat.reduceLeDiff, Nat.reduceAdd, Nat.reduceMul, Nat.reduceSub, reduceCtorEq, l32_0, l32_1, l32_2, l32_3, l32_4, l32_5, l32_6, l32_7, l32_8, l32_9, l32_10, l32_11, l32_12, l32_13, l32_14, l32_15, l32_16, l32_17, l32_18, l32_19, l32_20, l32_21, l32_22, l32_23, l32_24, l32_25, l32_26, l32_27, l32_28, l32_29, l32_33, l32_40, l32_41, l32_44, l32_45, l32_59, l32_61, l32_91, l32_93, l32_123, l32_125, e1]
          rw [E2]
          exact FIN t1 v (bdk sg x y) _ (UP e2) e3
        · rw [if_neg ct]
          have hr1 : rws x y = 1 := by
            unfold rws
            rw [if_neg (fun z => ct (Or.inl z)), if_neg (fun z => ct (Or.inr z))]
          have huk' := huk
          unfold unkT at huk'
          rw [Bool.or_eq_false_iff] at huk'
          have hnu : unl (bsd x 0) (bsd y 0) = false := any_le (Nat.le_refl _) huk'.2 0 (by omega)
          have re := rsz_eq hnu
          have hLe := rsz_le (x := x) (y := y) (i := 0) wx wy h3 h3' (fun z => absurd (Or.inl z) ct) (fun z => absurd (Or.inr z) ct)
          have hpq : (∃ r, bsd x 0 = .inr r) ∨ ∃ r, bsd y 0 = .inr r := by
            by_cases c : kn x = 0
            · exact Or.inr (bsd_r (fun z => c0 ⟨c, z⟩) h3')
            · exact Or.inl (bsd_r c h3)
          obtain ⟨t1, v, e1, e2, e3, e4⟩ := c_rows (N := N) (X := X) hN hs hh0 (opC_0 hx0 (by omega)) (opC_0 hy0 (by omega)) rfl re.1 re.2 hpq hLe (by omega) (by omega)
          have E2 : cf_222_51 N X (Int32.ofNat (sgC sg)) vx vy (Int32.ofNat (kn x)) (Int32.ofNat (kn y)) t0 = cf_222_107 N X v t1 := by
            have e : (if Int32.ofNat (kn x) < Int32.ofNat (kn y) then Int32.ofNat (kn y) else Int32.ofNat (kn x)) = Int32.ofNat 1 := by
              by_cases c : kn x < kn y
              · rw [if_pos ((i32lt (by omega) (by omega)).mpr c)]
                rw [show kn y = 1 by omega]
              · rw [if_neg (fun z => c ((i32lt (by omega) (by omega)).mp z))]
                rw [show kn x = 1 by omega]
            unfold cf_222_51
            rw [e, if_pos (by decide)]
            generalize sgC sg = sc at *
            unfold cf_222_82 cf_222_88 cf_222_96
            simp (disch := omega) only [ev_S, ev_C, ↓reduceIte, Nat.reduceEqDiff, Nat.reduceLeDiff, Nat.reduceAdd, Nat.reduceMul, Nat.reduceSub, reduceCtorEq, l32_0, l32_1, l32_2, l32_3, l32_4, l32_5, l32_6, l32_7, l32_8, l32_9, l32_10, l32_11, l32_12, l32_13, l32_14, l32_15, l32_16, l32_17, l32_18, l32_19, l32_20, l32_21, l32_22, l32_23, l32_24, l32_25, l32_26, l32_27, l32_28, l32_29, l32_33, l32_40, l32_41, l32_44, l32_45, l32_59, l32_61, l32_91, l32_93, l32_123, l32_125, e1]
          rw [E2]
          have hbd : bdk sg x y = bad2 sg (bsd x 0) (bsd y 0) := by
            unfold bdk
            rw [hr1]
            show (bad2 sg (bsd x 0) (bsd y 0) || false) = _
            rw [Bool.or_false]
          rw [hbd]
          have hl : (row2 sg (bsd x 0) (bsd y 0)).length = rsz (bsd x 0) (bsd y 0) := row2_len
          have hm : mk 1 ((row2 sg (bsd x 0) (bsd y 0)).map nZ) = some (mkR ((row2 sg (bsd x 0) (bsd y 0)).map nZ)) := by
            show (if ((row2 sg (bsd x 0) (bsd y 0)).map nZ).length ≤ 64 then some (mkR ((row2 sg (bsd x 0) (bsd y 0)).map nZ)) else none) = _
            rw [List.length_map, hl, if_pos hLe]
          have hwf := mk_wf (k := 1) (xs := (row2 sg (bsd x 0) (bsd y 0)).map nZ) (Or.inl ⟨rfl, fun z hz => by obtain ⟨j, -, rfl⟩ := List.mem_map.mp hz; rfl⟩) (fun z hz => by obtain ⟨j, -, rfl⟩ := List.mem_map.mp hz; exact trivial) hm
          refine FIN t1 v (bad2 sg (bsd x 0) (bsd y 0)) (ansM 1 ((row2 sg (bsd x 0) (bsd y 0)).map nZ)) (UP ?_) ?_
          · unfold ansM
            rw [hm]
            refine ⟨u + 1 + rsz (bsd x 0) (bsd y 0), w, e2.1, e2.2.1, by omega, e2.2.2.2.1, ?_, ?_, hwf.1, by rw [hwf.2]; exact Nat.le_refl _⟩
            · refine cN_iff.mpr ?_
              rw [mkR_Z]
              exact cN_iff.mp e3
            · rw [mkR_Z]
              show _ ≤ u + (4 + (row2 sg (bsd x 0) (bsd y 0)).length)
              rw [hl]
              omega
          · rw [e4, f0]
end TWG
