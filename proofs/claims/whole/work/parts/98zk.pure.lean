/-! ===== PURE: run (114): a for goes on (the class, the reference) ===== -/
/-- how far a for goes -/
def lim (x : Nod) : Nat := if kn x = 0 then (ivN x).toNatClampNeg else szN x
/-- what a for gives -/
def elN (x : Nod) (i : Nat) : Nod := if kn x = 0 then nZ (Int32.ofNat i) else (pts x).getD i (nZ 0)
section FOR
variable {N : Nat} {X : Nat → Option zz_C} {t0 t t1 t2 : cS} {s0 s s' s1 s2 : mS} {u w f f' p h fu m m' d d' n k b z j i rr kx : Nat} {code : List Ins} {Fs : List Fn} {T T' : Ty} {out out' : List Int32} {F G : List Fm} {sh sh' S0 : Nat → Option Nod} {vs vs' : List (Option Nod)} {I I' J : List It} {q r pl kk v gt : Int32} {x : Nod}
theorem elN_ok (hx : wfN x ∧ x.1 ≤ 4) (hi : i < lim x) : wfN (elN x i) ∧ (elN x i).1 ≤ 4 := by
  unfold elN
  unfold lim at hi
  by_cases c : kn x = 0
  · rw [if_pos c]
    exact gd_Z _ rfl
  · rw [if_neg c] at hi ⊢
    have hl : i < (pts x).length := by rw [pts_len]; exact hi
    rw [List.getD_eq_getElem?_getD, List.getElem?_eq_getElem hl]
    exact ⟨wf_pts hx.1 _ (List.getElem_mem hl), Nat.le_trans (pts_lv _ (List.getElem_mem hl)) hx.2⟩
theorem lim_b (hx : wfN x) (hn : kn x = 0 → ¬ ivN x < 0) : lim x < 2147483648 := by
  unfold lim
  split
  · rename_i c
    obtain ⟨p, hp, e⟩ := i32nn (hn c)
    rw [e, ev_c hp]
    exact hp
  · have := wf64 hx
    omega
theorem cStk_2 : cStk ((m, d, vs, (2, [x], i) :: I) :: G) = some (nZ (Int32.ofNat i)) :: some x :: cStk ((m', d', vs, I) :: G) := by
  rw [cStk_cons (m' := m') (d' := d')]
  rfl
theorem cStk_00 {a b : Nod} {j j' : Nat} : cStk ((m, d, vs, (0, [a], j) :: (0, [b], j') :: I) :: G) = some a :: some b :: cStk ((m', d', vs, I) :: G) := by
  rw [cStk_cons (m' := m') (d' := d'), cStk_cons (m := m') (d := d') (m' := m') (d' := d')]
  rfl
theorem tStk_2 : tStk ((m, d, vs, (2, [x], i) :: I) :: G) = tStk ((m', d', vs, I) :: G) := tStk_cons (by show ¬ (2 : Nat) = 3; decide)
theorem tStk_0 {a : Nod} : tStk ((m, d, vs, (0, [a], j) :: I) :: G) = tStk ((m', d', vs, I) :: G) := tStk_cons (by show ¬ (0 : Nat) = 3; decide)
/-- the class -/
theorem CX.forG (C : CX t0 t p code Fs fu S0 u w ((m, d, vs, (2, [x], i) :: I) :: G) sh T out) (hl : (cStk ((m, d, vs, (2, [x], i) :: I) :: G)).length ≤ 17500) (hx : wfN x) (hn : kn x = 0 → ¬ ivN x < 0) : (i < lim x → ∃ t4, cf_152 N X gt t = some (t4, .inl none) ∧ CX t0 t4 p code Fs fu S0 u w ((m, d, vs, (0, [elN x i], 0) :: (2, [x], i + 1) :: I) :: G) sh T out ∧ kI t4 49 17 = kI t 49 17) ∧ (i = lim x → ∃ t4, cf_152 N X gt t = some (jI t4 49 17 gt, .inl none) ∧ CX t0 t4 p code Fs fu S0 u w ((m', d', vs, I) :: G) sh T out) := by
  have hlb := lim_b hx hn
  obtain ⟨va, a1, a2⟩ := C.top1 (N := N) (X := X) (cStk_2 (m' := m) (d' := d))
  obtain ⟨vb, b1, b2⟩ := C.top2 (N := N) (X := X) (cStk_2 (m' := m) (d' := d))
  have a2 : cN (cel t) u va (nZ (Int32.ofNat i)) := a2
  have b2 : cN (cel t) u vb x := b2
  have ea := a2.z rfl
  have lo := c_lowOf (N := N) (X := X) (t := t) (k := 0) (a := ivN (nZ (Int32.ofNat i)))
  rw [← ea] at lo
  have lo : cf_256 N X va t = some (t, .inl (some (.int (Int32.ofNat i)))) := lo
  have kb := c_kn (N := N) (X := X) b2
  have hk3 := kn_le (x := x)
  have E1 : cf_152 N X gt t = cf_152_38 N X gt vb (Int32.ofNat i) (Int32.ofNat (lim x)) t := by
    by_cases c0 : kn x = 0
    · obtain ⟨iv, hiv, eiv⟩ := i32nn (hn c0)
      have lb := c_lowOf (N := N) (X := X) (t := t) (k := 0) (a := ivN x)
      rw [← b2.z c0, eiv] at lb
      have el : lim x = iv := by
        unfold lim
        rw [if_pos c0, eiv, ev_c hiv]
      rw [c0] at kb
      rw [el]
      unfold cf_152 cf_152_0 cf_152_5 cf_152_11 cf_152_14 cf_152_20 cf_152_23 cf_152_27
      simp (disch := omega) only [ev_S, ev_C, ↓reduceIte, Nat.reduceEqDiff, Nat.reduceLeDiff, Nat.reduceAdd, Nat.reduceMul, Nat.reduceSub, reduceCtorEq, l32_0, l32_1, l32_2, l32_3, l32_4, l32_5, l32_6, l32_7, l32_8, l32_9, l32_10, l32_11, l32_12, l32_13, l32_14, l32_15, l32_16, l32_17, l32_18, l32_19, l32_20, l32_21, l32_22, l32_23, l32_24, l32_25, l32_26, l32_27, l32_28, l32_29, l32_33, l32_40, l32_41, l32_44, l32_45, l32_59, l32_61, l32_91, l32_93, l32_123, l32_125, b1, a1, lo, kb, lb]
    · have lb := c_sizeN (N := N) (X := X) C.2.2.1 b2
      have el : lim x = szN x := if_neg c0
      rw [el]
      generalize kn x = kn' at *
      generalize szN x = sx at *
      unfold cf_152 cf_152_0 cf_152_5 cf_152_11 cf_152_14 cf_152_20 cf_152_30
      simp (disch := omega) only [ev_S, ev_C, ↓reduceIte, Nat.reduceEqDiff, Nat.reduceLeDiff, Nat.reduceAdd, Nat.reduceMul, Nat.reduceSub, reduceCtorEq, l32_0, l32_1, l32_2, l32_3, l32_4, l32_5, l32_6, l32_7, l32_8, l32_9, l32_10, l32_11, l32_12, l32_13, l32_14, l32_15, l32_16, l32_17, l32_18, l32_19, l32_20, l32_21, l32_22, l32_23, l32_24, l32_25, l32_26, l32_27, l32_28, l32_29, l32_33, l32_40, l32_41, l32_44, l32_45, l32_59, l32_61, l32_91, l32_93, l32_123, l32_125, b1, a1, lo, kb, lb, c0]
  have CV : CX t0 t p code Fs fu S0 u w ((m, d, vs, (0, [nZ (Int32.ofNat i)], 0) :: (0, [x], 0) :: I) :: G) sh T out := C.re (by rw [cStk_2 (m' := m) (d' := d), cStk_00 (m' := m) (d' := d)]) (by rw [tStk_2 (m' := m) (d' := d), tStk_0 (m' := m) (d' := d), tStk_0 (m' := m) (d' := d)])
  have hl2 : (cStk ((m, d, vs, I) :: G)).length ≤ 17498 := by
    rw [cStk_2 (m' := m) (d' := d)] at hl
    have : (cStk ((m, d, vs, I) :: G)).length + 1 + 1 ≤ 17500 := hl
    omega
  have hl1 : (cStk ((m, d, vs, (0, [x], 0) :: I) :: G)).length ≤ 17499 := by
    rw [cStk_cons (m' := m) (d' := d)]
    show (some x :: cStk ((m, d, vs, I) :: G)).length ≤ _
    rw [List.length_cons]
    omega
  obtain ⟨t2, v2, p1, -, p3, p4, p5⟩ := CV.pop (N := N) (X := X) (m' := m) (d' := d) (o := some (nZ (Int32.ofNat i))) (by rw [cStk_00 (m' := m) (d' := d), List.length_cons, List.length_cons]; omega) (by show ¬ (0 : Nat) = 3; decide) rfl
  refine ⟨fun hi => ?_, fun hi => ?_⟩
  · obtain ⟨t3, q1, q2, q3, q4⟩ := p3.push (N := N) (X := X) (m' := m) (d' := d) (it := (0, [nZ (Int32.ofNat (i + 1))], 0)) (o := some (nZ (Int32.ofNat (i + 1)))) (v := tg (Int32.ofNat 0) (Int32.ofNat (i + 1))) (by omega) cN_Z (by show ¬ (0 : Nat) = 3; decide) rfl
    have q2' : CX t0 t3 p code Fs fu S0 u w ((m, d, vs, (2, [x], i + 1) :: I) :: G) sh T out := q2.re (by rw [cStk_2 (m' := m) (d' := d), cStk_00 (m' := m) (d' := d)]) (by rw [tStk_2 (m' := m) (d' := d), tStk_0 (m' := m) (d' := d), tStk_0 (m' := m) (d' := d)])
    have b3 : cN (cel t3) u vb x := by rw [q4, p5]; exact b2
    have kb3 := c_kn (N := N) (X := X) b3
    have key : ∃ ve, cN (cel t3) u ve (elN x i) ∧ cf_152_75 N X vb (Int32.ofNat i) t3 = cf_152_102 N X ve t3 := by
      by_cases c0 : kn x = 0
      · refine ⟨tg (Int32.ofNat 0) (Int32.ofNat i), ?_, ?_⟩
        · unfold elN
          rw [if_pos c0]
          exact cN_Z
        · rw [c0] at kb3
          have eth := c_thing (N := N) (X := X) (t := t3) (k := Int32.ofNat 0) (a := Int32.ofNat i)
          unfold cf_152_75 cf_152_80 cf_152_83 cf_152_89
          simp (disch := omega) only [ev_S, ev_C, ↓reduceIte, Nat.reduceEqDiff, Nat.reduceLeDiff, Nat.reduceAdd, Nat.reduceMul, Nat.reduceSub, reduceCtorEq, l32_0, l32_1, l32_2, l32_3, l32_4, l32_5, l32_6, l32_7, l32_8, l32_9, l32_10, l32_11, l32_12, l32_13, l32_14, l32_15, l32_16, l32_17, l32_18, l32_19, l32_20, l32_21, l32_22, l32_23, l32_24, l32_25, l32_26, l32_27, l32_28, l32_29, l32_33, l32_40, l32_41, l32_44, l32_45, l32_59, l32_61, l32_91, l32_93, l32_123, l32_125, kb3, eth]
      · have hip : i < (pts x).length := by
          rw [pts_len]
          unfold lim at hi
          rw [if_neg c0] at hi
          exact hi
        obtain ⟨ve, e1, e2⟩ := c_part (N := N) (X := X) q2'.2.2.1 b3 hip
        refine ⟨ve, ?_, ?_⟩
        · unfold elN
          rw [if_neg c0, List.getD_eq_getElem?_getD, List.getElem?_eq_getElem hip]
          exact e2
        · generalize kn x = kn' at *
          unfold cf_152_75 cf_152_80 cf_152_92
          simp (disch := omega) only [ev_S, ev_C, ↓reduceIte, Nat.reduceEqDiff, Nat.reduceLeDiff, Nat.reduceAdd, Nat.reduceMul, Nat.reduceSub, reduceCtorEq, l32_0, l32_1, l32_2, l32_3, l32_4, l32_5, l32_6, l32_7, l32_8, l32_9, l32_10, l32_11, l32_12, l32_13, l32_14, l32_15, l32_16, l32_17, l32_18, l32_19, l32_20, l32_21, l32_22, l32_23, l32_24, l32_25, l32_26, l32_27, l32_28, l32_29, l32_33, l32_40, l32_41, l32_44, l32_45, l32_59, l32_61, l32_91, l32_93, l32_123, l32_125, kb3, c0, e1]
    obtain ⟨ve, e1, e2⟩ := key
    obtain ⟨t4, r1, r2, r3, -⟩ := q2'.push (N := N) (X := X) (m' := m) (d' := d) (it := (0, [elN x i], 0)) (o := some (elN x i)) (v := ve) (by rw [cStk_2 (m' := m) (d' := d), List.length_cons, List.length_cons]; omega) e1 (by show ¬ (0 : Nat) = 3; decide) rfl
    refine ⟨t4, ?_, r2, by rw [r3, q3, p4]⟩
    rw [E1]
    have eth := c_thing (N := N) (X := X) (t := t2) (k := Int32.ofNat 0) (a := Int32.ofNat (i + 1))
    clear E1
    generalize lim x = lx at *
    unfold cf_152_38 cf_152_44 cf_152_63 cf_152_72
    simp (disch := omega) only [ev_S, ev_C, ↓reduceIte, Nat.reduceEqDiff, Nat.reduceLeDiff, Nat.reduceAdd, Nat.reduceMul, Nat.reduceSub, reduceCtorEq, l32_0, l32_1, l32_2, l32_3, l32_4, l32_5, l32_6, l32_7, l32_8, l32_9, l32_10, l32_11, l32_12, l32_13, l32_14, l32_15, l32_16, l32_17, l32_18, l32_19, l32_20, l32_21, l32_22, l32_23, l32_24, l32_25, l32_26, l32_27, l32_28, l32_29, l32_33, l32_40, l32_41, l32_44, l32_45, l32_59, l32_61, l32_91, l32_93, l32_123, l32_125, p1, hi, eth, q1]
    rw [e2]
    unfold cf_152_102 cf_152_105
    simp (disch := omega) only [ev_S, ev_C, ↓reduceIte, Nat.reduceEqDiff, Nat.reduceLeDiff, Nat.reduceAdd, Nat.reduceMul, Nat.reduceSub, reduceCtorEq, l32_0, l32_1, l32_2, l32_3, l32_4, l32_5, l32_6, l32_7, l32_8, l32_9, l32_10, l32_11, l32_12, l32_13, l32_14, l32_15, l32_16, l32_17, l32_18, l32_19, l32_20, l32_21, l32_22, l32_23, l32_24, l32_25, l32_26, l32_27, l32_28, l32_29, l32_33, l32_40, l32_41, l32_44, l32_45, l32_59, l32_61, l32_91, l32_93, l32_123, l32_125, r1]
  · obtain ⟨t3, v3, q1, -, q3, -, -⟩ := p3.pop (N := N) (X := X) (m' := m') (d' := d') (o := some x) (by omega) (by show ¬ (0 : Nat) = 3; decide) rfl
    refine ⟨t3, ?_, q3⟩
    rw [E1]
    clear E1
    have hi' : ¬ i < lim x := by omega
    have hib : i < 2147483648 := by omega
    generalize lim x = lx at *
    unfold cf_152_38 cf_152_44 cf_152_52 cf_152_56
    simp (disch := omega) only [ev_S, ev_C, ↓reduceIte, Nat.reduceEqDiff, Nat.reduceLeDiff, Nat.reduceAdd, Nat.reduceMul, Nat.reduceSub, reduceCtorEq, l32_0, l32_1, l32_2, l32_3, l32_4, l32_5, l32_6, l32_7, l32_8, l32_9, l32_10, l32_11, l32_12, l32_13, l32_14, l32_15, l32_16, l32_17, l32_18, l32_19, l32_20, l32_21, l32_22, l32_23, l32_24, l32_25, l32_26, l32_27, l32_28, l32_29, l32_33, l32_40, l32_41, l32_44, l32_45, l32_59, l32_61, l32_91, l32_93, l32_123, l32_125, p1, hi', q1]
end FOR
