-- ### 98zk.pure.lean.txt
section
/-! ===== PURE: run (114): a for goes on (the class, the reference) ===== -/
/-- how far a for goes -/
def lim (x : Nod) : Nat := if kn x = 0 then (ivN x).toNatClampNeg else szN x
/-- what a for gives -/
def elN (x : Nod) (i : Nat) : Nod := if kn x = 0 then nZ (Int32.ofNat i) else (pts x).getD i (nZ 0)
section FOR
variable {N : Nat} {X : Nat → Option zz_C} {t0 t t1 t2 : cS} {s0 s s' s1 s2 : mS} {u w f f' p h fu m m' d d' n k b z j i rr kx : Nat} {code : List Ins} {Fs : List Fn} {T T' : Ty} {out out' : List Int32} {F G : List Fm} {sh sh' S0 : Nat → Option Nod} {vs vs' : List (Option Nod)} {I I' J : List It} {q r pl kk v gt : Int32} {x : Nod}
theorem elN_ok (hx : wfN x ∧ x.1 ≤ 4) (hi : i < lim x) : wfN (elN x i) ∧ (elN x i).1 ≤ 4 := by
  unfold elN
  unfold lim at hi
  by_cases c : kn x = 0
  · rw [if_pos c]
    exact gd_Z _ rfl
  · rw [if_neg c] at hi ⊢
    have hl : i < (pts x).length := by rw [pts_len]; exact hi
    rw [List.getD_eq_getElem?_getD, List.getElem?_eq_getElem hl]
    exact ⟨wf_pts hx.1 _ (List.getElem_mem hl), Nat.le_trans (pts_lv _ (List.getElem_mem hl)) hx.2⟩
theorem lim_b (hx : wfN x) (hn : kn x = 0 → ¬ ivN x < 0) : lim x < 2147483648 := by
  unfold lim
  split
  · rename_i c
    obtain ⟨p, hp, e⟩ := i32nn (hn c)
    rw [e, ev_c hp]
    exact hp
  · have := wf64 hx
    omega
theorem cStk_2 : cStk ((m, d, vs, (2, [x], i) :: I) :: G) = some (nZ (Int32.ofNat i)) :: some x :: cStk ((m', d', vs, I) :: G) := by
  rw [cStk_cons (m' := m') (d' := d')]
  rfl
theorem cStk_00 {a b : Nod} {j j' : Nat} : cStk ((m, d, vs, (0, [a], j) :: (0, [b], j') :: I) :: G) = some a :: some b :: cStk ((m', d', vs, I) :: G) := by
  rw [cStk_cons (m' := m') (d' := d'), cStk_cons (m := m') (d := d') (m' := m') (d' := d')]
  rfl
theorem tStk_2 : tStk ((m, d, vs, (2, [x], i) :: I) :: G) = tStk ((m', d', vs, I) :: G) := tStk_cons (by show ¬ (2 : Nat) = 3; decide)
theorem tStk_0 {a : Nod} : tStk ((m, d, vs, (0, [a], j) :: I) :: G) = tStk ((m', d', vs, I) :: G) := tStk_cons (by show ¬ (0 : Nat) = 3; decide)
/-- the class -/
theorem CX.forG (C : CX t0 t p code Fs fu S0 u w ((m, d, vs, (2, [x], i) :: I) :: G) sh T out) (hl : (cStk ((m, d, vs, (2, [x], i) :: I) :: G)).length ≤ 17500) (hx : wfN x) (hn : kn x = 0 → ¬ ivN x < 0) : (i < lim x → ∃ t4, cf_152 N X gt t = some (t4, .inl none) ∧ CX t0 t4 p code Fs fu S0 u w ((m, d, vs, (0, [elN x i], 0) :: (2, [x], i + 1) :: I) :: G) sh T out ∧ kI t4 49 17 = kI t 49 17) ∧ (i = lim x → ∃ t4, cf_152 N X gt t = some (jI t4 49 17 gt, .inl none) ∧ CX t0 t4 p code Fs fu S0 u w ((m', d', vs, I) :: G) sh T out) := by
  have hlb := lim_b hx hn
  obtain ⟨va, a1, a2⟩ := C.top1 (N := N) (X := X) (cStk_2 (m' := m) (d' := d))
  obtain ⟨vb, b1, b2⟩ := C.top2 (N := N) (X := X) (cStk_2 (m' := m) (d' := d))
  have a2 : cN (cel t) u va (nZ (Int32.ofNat i)) := a2
  have b2 : cN (cel t) u vb x := b2
  have ea := a2.z rfl
  have lo := c_lowOf (N := N) (X := X) (t := t) (k := 0) (a := ivN (nZ (Int32.ofNat i)))
  rw [← ea] at lo
  have lo : cf_256 N X va t = some (t, .inl (some (.int (Int32.ofNat i)))) := lo
  have kb := c_kn (N := N) (X := X) b2
  have hk3 := kn_le (x := x)
  have E1 : cf_152 N X gt t = cf_152_38 N X gt vb (Int32.ofNat i) (Int32.ofNat (lim x)) t := by
    by_cases c0 : kn x = 0
    · obtain ⟨iv, hiv, eiv⟩ := i32nn (hn c0)
      have lb := c_lowOf (N := N) (X := X) (t := t) (k := 0) (a := ivN x)
      rw [← b2.z c0, eiv] at lb
      have el : lim x = iv := by
        unfold lim
        rw [if_pos c0, eiv, ev_c hiv]
      rw [c0] at kb
      rw [el]
      unfold cf_152 cf_152_0 cf_152_5 cf_152_11 cf_152_14 cf_152_20 cf_152_23 cf_152_27
      simp (disch := omega) only [ev_S, ev_C, ↓reduceIte, Nat.reduceEqDiff, Nat.reduceLeDiff, Nat.reduceAdd, Nat.reduceMul, Nat.reduceSub, reduceCtorEq, l32_0, l32_1, l32_2, l32_3, l32_4, l32_5, l32_6, l32_7, l32_8, l32_9, l32_10, l32_11, l32_12, l32_13, l32_14, l32_15, l32_16, l32_17, l32_18, l32_19, l32_20, l32_21, l32_22, l32_23, l32_24, l32_25, l32_26, l32_27, l32_28, l32_29, l32_33, l32_40, l32_41, l32_44, l32_45, l32_59, l32_61, l32_91, l32_93, l32_123, l32_125, b1, a1, lo, kb, lb]
    · have lb := c_sizeN (N := N) (X := X) C.2.2.1 b2
      have el : lim x = szN x := if_neg c0
      rw [el]
      generalize kn x = kn' at *
      generalize szN x = sx at *
      unfold cf_152 cf_152_0 cf_152_5 cf_152_11 cf_152_14 cf_152_20 cf_152_30
      simp (disch := omega) only [ev_S, ev_C, ↓reduceIte, Nat.reduceEqDiff, Nat.reduceLeDiff, Nat.reduceAdd, Nat.reduceMul, Nat.reduceSub, reduceCtorEq, l32_0, l32_1, l32_2, l32_3, l32_4, l32_5, l32_6, l32_7, l32_8, l32_9, l32_10, l32_11, l32_12, l32_13, l32_14, l32_15, l32_16, l32_17, l32_18, l32_19, l32_20, l32_21, l32_22, l32_23, l32_24, l32_25, l32_26, l32_27, l32_28, l32_29, l32_33, l32_40, l32_41, l32_44, l32_45, l32_59, l32_61, l32_91, l32_93, l32_123, l32_125, b1, a1, lo, kb, lb, c0]
  have CV : CX t0 t p code Fs fu S0 u w ((m, d, vs, (0, [nZ (Int32.ofNat i)], 0) :: (0, [x], 0) :: I) :: G) sh T out := C.re (by rw [cStk_2 (m' := m) (d' := d), cStk_00 (m' := m) (d' := d)]) (by rw [tStk_2 (m' := m) (d' := d), tStk_0 (m' := m) (d' := d), tStk_0 (m' := m) (d' := d)])
  have hl2 : (cStk ((m, d, vs, I) :: G)).length ≤ 17498 := by
    rw [cStk_2 (m' := m) (d' := d)] at hl
    have : (cStk ((m, d, vs, I) :: G)).length + 1 + 1 ≤ 17500 := hl
    omega
  have hl1 : (cStk ((m, d, vs, (0, [x], 0) :: I) :: G)).length ≤ 17499 := by
    rw [cStk_cons (m' := m) (d' := d)]
    show (some x :: cStk ((m, d, vs, I) :: G)).length ≤ _
    rw [List.length_cons]
    omega
  obtain ⟨t2, v2, p1, -, p3, p4, p5⟩ := CV.pop (N := N) (X := X) (m' := m) (d' := d) (o := some (nZ (Int32.ofNat i))) (by rw [cStk_00 (m' := m) (d' := d), List.length_cons, List.length_cons]; omega) (by show ¬ (0 : Nat) = 3; decide) rfl
  refine ⟨fun hi => ?_, fun hi => ?_⟩
  · obtain ⟨t3, q1, q2, q3, q4⟩ := p3.push (N := N) (X := X) (m' := m) (d' := d) (it := (0, [nZ (Int32.ofNat (i + 1))], 0)) (o := some (nZ (Int32.ofNat (i + 1)))) (v := tg (Int32.ofNat 0) (Int32.ofNat (i + 1))) (by omega) cN_Z (by show ¬ (0 : Nat) = 3; decide) rfl
    have q2' : CX t0 t3 p code Fs fu S0 u w ((m, d, vs, (2, [x], i + 1) :: I) :: G) sh T out := q2.re (by rw [cStk_2 (m' := m) (d' := d), cStk_00 (m' := m) (d' := d)]) (by rw [tStk_2 (m' := m) (d' := d), tStk_0 (m' := m) (d' := d), tStk_0 (m' := m) (d' := d)])
    have b3 : cN (cel t3) u vb x := by rw [q4, p5]; exact b2
    have kb3 := c_kn (N := N) (X := X) b3
    have key : ∃ ve, cN (cel t3) u ve (elN x i) ∧ cf_152_75 N X vb (Int32.ofNat i) t3 = cf_152_102 N X ve t3 := by
      by_cases c0 : kn x = 0
      · refine ⟨tg (Int32.ofNat 0) (Int32.ofNat i), ?_, ?_⟩
        · unfold elN
          rw [if_pos c0]
          exact cN_Z
        · rw [c0] at kb3
          have eth := c_thing (N := N) (X := X) (t := t3) (k := Int32.ofNat 0) (a := Int32.ofNat i)
          unfold cf_152_75 cf_152_80 cf_152_83 cf_152_89
          simp (disch := omega) only [ev_S, ev_C, ↓reduceIte, Nat.reduceEqDiff, Nat.reduceLeDiff, Nat.reduceAdd, Nat.reduceMul, Nat.reduceSub, reduceCtorEq, l32_0, l32_1, l32_2, l32_3, l32_4, l32_5, l32_6, l32_7, l32_8, l32_9, l32_10, l32_11, l32_12, l32_13, l32_14, l32_15, l32_16, l32_17, l32_18, l32_19, l32_20, l32_21, l32_22, l32_23, l32_24, l32_25, l32_26, l32_27, l32_28, l32_29, l32_33, l32_40, l32_41, l32_44, l32_45, l32_59, l32_61, l32_91, l32_93, l32_123, l32_125, kb3, eth]
      · have hip : i < (pts x).length := by
          rw [pts_len]
          unfold lim at hi
          rw [if_neg c0] at hi
          exact hi
        obtain ⟨ve, e1, e2⟩ := c_part (N := N) (X := X) q2'.2.2.1 b3 hip
        refine ⟨ve, ?_, ?_⟩
        · unfold elN
          rw [if_neg c0, List.getD_eq_getElem?_getD, List.getElem?_eq_getElem hip]
          exact e2
        · generalize kn x = kn' at *
          unfold cf_152_75 cf_152_80 cf_152_92
          simp (disch := omega) only [ev_S, ev_C, ↓reduceIte, Nat.reduceEqDiff, Nat.reduceLeDiff, Nat.reduceAdd, Nat.reduceMul, Nat.reduceSub, reduceCtorEq, l32_0, l32_1, l32_2, l32_3, l32_4, l32_5, l32_6, l32_7, l32_8, l32_9, l32_10, l32_11, l32_12, l32_13, l32_14, l32_15, l32_16, l32_17, l32_18, l32_19, l32_20, l32_21, l32_22, l32_23, l32_24, l32_25, l32_26, l32_27, l32_28, l32_29, l32_33, l32_40, l32_41, l32_44, l32_45, l32_59, l32_61, l32_91, l32_93, l32_123, l32_125, kb3, c0, e1]
    obtain ⟨ve, e1, e2⟩ := key
    obtain ⟨t4, r1, r2, r3, -⟩ := q2'.push (N := N) (X := X) (m' := m) (d' := d) (it := (0, [elN x i], 0)) (o := some (elN x i)) (v := ve) (by rw [cStk_2 (m' := m) (d' := d), List.length_cons, List.length_cons]; omega) e1 (by show ¬ (0 : Nat) = 3; decide) rfl
    refine ⟨t4, ?_, r2, by rw [r3, q3, p4]⟩
    rw [E1]
    have eth := c_thing (N := N) (X := X) (t := t2) (k := Int32.ofNat 0) (a := Int32.ofNat (i + 1))
    clear E1
    generalize lim x = lx at *
    unfold cf_152_38 cf_152_44 cf_152_63 cf_152_72
    simp (disch := omega) only [ev_S, ev_C, ↓reduceIte, Nat.reduceEqDiff, Nat.reduceLeDiff, Nat.reduceAdd, Nat.reduceMul, Nat.reduceSub, reduceCtorEq, l32_0, l32_1, l32_2, l32_3, l32_4, l32_5, l32_6, l32_7, l32_8, l32_9, l32_10, l32_11, l32_12, l32_13, l32_14, l32_15, l32_16, l32_17, l32_18, l32_19, l32_20, l32_21, l32_22, l32_23, l32_24, l32_25, l32_26, l32_27, l32_28, l32_29, l32_33, l32_40, l32_41, l32_44, l32_45, l32_59, l32_61, l32_91, l32_93, l32_123, l32_125, p1, hi, eth, q1]
    rw [e2]
    unfold cf_152_102 cf_152_105
    simp (disch := omega) only [ev_S, ev_C, ↓reduceIte, Nat.reduceEqDiff, Nat.reduceLeDiff, Nat.reduceAdd, Nat.reduceMul, Nat.reduceSub, reduceCtorEq, l32_0, l32_1, l32_2, l32_3, l32_4, l32_5, l32_6, l32_7, l32_8, l32_9, l32_10, l32_11, l32_12, l32_13, l32_14, l32_15, l32_16, l32_17, l32_18, l32_19, l32_20, l32_21, l32_22, l32_23, l32_24, l32_25, l32_26, l32_27, l32_28, l32_29, l32_33, l32_40, l32_41, l32_44, l32_45, l32_59, l32_61, l32_91, l32_93, l32_123, l32_125, r1]
  · obtain ⟨t3, v3, q1, -, q3, -, -⟩ := p3.pop (N := N) (X := X) (m' := m') (d' := d') (o := some x) (by omega) (by show ¬ (0 : Nat) = 3; decide) rfl
    refine ⟨t3, ?_, q3⟩
    rw [E1]
    clear E1
    have hi' : ¬ i < lim x := by omega
    have hib : i < 2147483648 := by omega
    generalize lim x = lx at *
    unfold cf_152_38 cf_152_44 cf_152_52 cf_152_56
    simp (disch := omega) only [ev_S, ev_C, ↓reduceIte, Nat.reduceEqDiff, Nat.reduceLeDiff, Nat.reduceAdd, Nat.reduceMul, Nat.reduceSub, reduceCtorEq, l32_0, l32_1, l32_2, l32_3, l32_4, l32_5, l32_6, l32_7, l32_8, l32_9, l32_10, l32_11, l32_12, l32_13, l32_14, l32_15, l32_16, l32_17, l32_18, l32_19, l32_20, l32_21, l32_22, l32_23, l32_24, l32_25, l32_26, l32_27, l32_28, l32_29, l32_33, l32_40, l32_41, l32_44, l32_45, l32_59, l32_61, l32_91, l32_93, l32_123, l32_125, p1, hi', q1]
end FOR
end
-- ### 98zl.pure.lean.txt
section
/-! ===== PURE: run (115): a for goes on (the reference) ===== -/
section FOS
variable {N : Nat} {X : Nat → Option zz_C} {t0 t t1 t2 : cS} {s0 s s' s1 s2 : mS} {u w f f' p h fu m m' d d' n k b z j i rr kx : Nat} {code : List Ins} {Fs : List Fn} {T T' : Ty} {out out' : List Int32} {F G : List Fm} {sh sh' S0 : Nat → Option Nod} {vs vs' : List (Option Nod)} {I I' J : List It} {q r pl kk v gt : Int32} {x : Nod}
/-- the way's number is one more -/
theorem RXm.turn (R : RXm s0 s h code Fs fu f ((m, d, vs, (2, [x], i) :: I) :: G) sh T out) : RXm s0 (mA s 82 (upd (s.2.2.1 82) (wStk ((m, d, vs, I) :: G)).length (Int32.ofNat (i + 1)))) h code Fs fu f ((m', d', vs, (2, [x], i + 1) :: I) :: G) sh T out := by
  obtain ⟨r1, ⟨b1, b2, b3, b4, b5, b6, b7, b8⟩, r3⟩ := R
  have eW := wStk_w (m := m) (d := d) (m' := m) (d' := d) (vs := vs) (I := I) (G := G) (it := (2, [x], i)) (Or.inl rfl)
  have eW' := wStk_w (m := m') (d := d') (m' := m) (d' := d) (vs := vs) (I := I) (G := G) (it := (2, [x], i + 1)) (Or.inl rfl)
  have eR : rStk ((m', d', vs, (2, [x], i + 1) :: I) :: G) = rStk ((m, d, vs, (2, [x], i) :: I) :: G) := by
    rw [rStk_cons (m' := m) (d' := d), rStk_cons (m' := m) (d' := d)]
    rfl
  rw [eW] at b3
  obtain ⟨hv, hr⟩ := b3
  obtain ⟨v1, v2, v3⟩ := hv.1 rfl
  refine ⟨r1.keep ⟨⟨fun q r => rfl, fun _ _ => rfl, fun q r => ?_, fun _ _ => rfl⟩, fun _ _ => rfl⟩ (fun q r => rfl) rfl, ⟨by rw [eR]; exact b1, rFr.loc (s := s) (fun q q1 q2 y hy => ?_) (fun y hy => ⟨rfl, rfl⟩) (Nat.le_refl _) (fun _ _ => rfl) (F := (m', d', vs, (2, [x], i + 1) :: I) :: G) (rFr.hd (a := (m, d, vs, (2, [x], i) :: I)) rfl b2), ?_, b4, b5, b6, ?_, b8⟩, by rw [eR]; exact r3⟩
  · unfold aRn at r
    show (if q = 82 then _ else s.2.2.1 q) = _
    rw [if_neg (by omega)]
  · show (if q = 82 then _ else s.2.2.1 q) y = _
    rw [if_neg (by omega)]
  · rw [eW']
    refine ⟨⟨fun _ => ⟨v1, if_pos rfl, v3⟩, fun q => (by cases q), fun q => (by rcases q with q | q <;> cases q)⟩, hr.mono (fun _ _ _ z => z) (fun i' hi' => ?_)⟩
    show (_, _, (if i' = _ then _ else _), _, _, _) = _
    rw [if_neg (by omega)]
    rfl
  · rw [eW']
    rw [eW] at b7
    exact b7
theorem RXm.forG (R : RXm s0 s h code Fs fu f ((m, d, vs, (2, [x], i) :: I) :: G) sh T out) (hstep : mf_302 N s1 = some (s, none)) (hk : kx < 8000) (h24 : s.2.2.1 24 kx = gt) (h25 : s.2.2.1 25 kx = Int32.ofNat rr) (hl : (rStk ((m, d, vs, (2, [x], i) :: I) :: G)).length ≤ 8700) (hw : (wStk ((m, d, vs, (2, [x], i) :: I) :: G)).length ≤ 110) (hx : wfN x) (hn : kn x = 0 → ¬ ivN x < 0) (hi : i ≤ lim x) (hf : f ≤ 166300) (hG : G.length ≤ 9) (hr : rr < 22) : (i < lim x → ∃ s3 kk v, mf_315 N (Int32.ofNat kx) s1 = some (stM s3 rr G.length kk v, none) ∧ RXm s0 s3 h code Fs fu f ((m', d', vs, (2, [x], i + 1) :: I) :: G) sh T out ∧ rvl (s3.2.2.1 47) f kk v (elN x i) ∧ s3.1 69 = s.1 69) ∧ (i = lim x → ∃ s3, mf_315 N (Int32.ofNat kx) s1 = some (mI s3 69 gt, none) ∧ RXm s0 s3 h code Fs fu f ((m', d', vs, I) :: G) sh T out) := by
  have hlb := lim_b hx hn
  have eW := wStk_w (m := m) (d := d) (m' := m) (d' := d) (vs := vs) (I := I) (G := G) (it := (2, [x], i)) (Or.inl rfl)
  have h66 : s.1 66 = Int32.ofNat 0 := R.1.2.2.1.1
  have h79 := R.2.1.2.2.2.2.2.2.1
  have hv := R.2.1.2.2.1
  have h73 : s.1 73 = Int32.ofNat (G.length + 1) := R.2.1.2.2.2.2.2.1
  have h51 := R.2.2
  rw [eW, List.length_cons] at h79 hw
  rw [eW] at hv
  obtain ⟨v1, v2, v3⟩ := hv.1.1 rfl
  have v2 : s.2.2.1 82 (wStk ((m, d, vs, I) :: G)).length = Int32.ofNat i := v2
  obtain ⟨v4, v5⟩ := v3 x rfl
  have h83 : s.2.2.1 83 (wStk ((m, d, vs, I) :: G)).length = Int32.ofNat (lim x) := by
    unfold lim
    by_cases c0 : kn x = 0
    · obtain ⟨iv, hiv, eiv⟩ := i32nn (hn c0)
      rw [if_pos c0, eiv, ev_c hiv, ← eiv]
      exact (v4 c0).2
    · rw [if_neg c0]
      obtain ⟨a, -, -, e3⟩ := v5 c0
      exact e3
  have RT := fun (s' : mS) (Z : RXm s0 s' h code Fs fu f ((m, d, vs, (2, [x], i) :: I) :: G) sh T out) => Z.turn (m' := m') (d' := d')
  have RU := R.unway (m' := m') (d' := d') (Or.inl rfl) rfl
  have eU : (wStk ((m', d', vs, I) :: G)).length = (wStk ((m, d, vs, I) :: G)).length := rfl
  rw [eU] at RU
  refine ⟨fun hi2 => ?_, fun hi2 => ?_⟩
  · -- it goes on
    have key : ∃ kk v, rvl (s.2.2.1 47) f kk v (elN x i) ∧ mf_315_55 N (Int32.ofNat kx) (Int32.ofNat (wStk ((m, d, vs, I) :: G)).length) s = mf_315_95 N (Int32.ofNat kx) (Int32.ofNat (wStk ((m, d, vs, I) :: G)).length) (pus s (rStk ((m, d, vs, (2, [x], i) :: I) :: G)).length kk v) := by
      by_cases c0 : kn x = 0
      · have e81 : s.2.2.1 81 (wStk ((m, d, vs, I) :: G)).length = -Int32.ofNat 1 := (v4 c0).1
        have hp := r_psh (N := N) (k := Int32.ofNat 0) (v := Int32.ofNat i) h51 (by omega)
        refine ⟨Int32.ofNat 0, Int32.ofNat i, ?_, ?_⟩
        · unfold elN
          rw [if_pos c0]
          exact rvl_Z
        · clear RT RU hv v3 v4 v5 eW
          generalize pus s (rStk ((m, d, vs, (2, [x], i) :: I) :: G)).length (Int32.ofNat 0) (Int32.ofNat i) = sP at *
          generalize (wStk ((m, d, vs, I) :: G)).length = nw at *
          unfold mf_315_55 mf_315_65 mf_315_76
          simp (disch := omega) only [ev_S, ev_P, ↓reduceIte, Nat.reduceEqDiff, Nat.reduceLeDiff, Nat.reduceAdd, Nat.reduceMul, Nat.reduceSub, reduceCtorEq, l32_0, l32_1, l32_2, l32_3, l32_4, l32_5, l32_6, l32_7, l32_8, l32_9, l32_10, l32_11, l32_12, l32_13, l32_14, l32_15, l32_16, l32_17, l32_18, l32_19, l32_20, l32_21, l32_22, l32_23, l32_24, l32_25, l32_26, l32_27, l32_28, l32_29, l32_33, l32_40, l32_41, l32_44, l32_45, l32_59, l32_61, l32_91, l32_93, l32_123, l32_125, e81, v2, hp]
      · obtain ⟨a, e81, e2, -⟩ := v5 c0
        have e81 : s.2.2.1 81 (wStk ((m, d, vs, I) :: G)).length = Int32.ofNat a := e81
        have hip : i < (pts x).length := by
          rw [pts_len]
          unfold lim at hi2
          rw [if_neg c0] at hi2
          exact hi2
        obtain ⟨kk, v, e3, e4⟩ := r_elem (N := N) e2 hf hip h51 (by omega)
        refine ⟨kk, v, ?_, ?_⟩
        · unfold elN
          rw [if_neg c0, List.getD_eq_getElem?_getD, List.getElem?_eq_getElem hip]
          exact e4
        · have na : ¬ Int32.ofNat a = -Int32.ofNat 1 := by
            have := (LayN.lt e2).1
            exact fun q => i32n (a := a) (by omega) (by rw [q]; decide)
          clear RT RU hv v3 v4 v5 eW
          generalize pus s (rStk ((m, d, vs, (2, [x], i) :: I) :: G)).length kk v = sP at *
          generalize (wStk ((m, d, vs, I) :: G)).length = nw at *
          unfold mf_315_55 mf_315_79
          simp (disch := omega) only [ev_S, ev_P, ↓reduceIte, Nat.reduceEqDiff, Nat.reduceLeDiff, Nat.reduceAdd, Nat.reduceMul, Nat.reduceSub, reduceCtorEq, l32_0, l32_1, l32_2, l32_3, l32_4, l32_5, l32_6, l32_7, l32_8, l32_9, l32_10, l32_11, l32_12, l32_13, l32_14, l32_15, l32_16, l32_17, l32_18, l32_19, l32_20, l32_21, l32_22, l32_23, l32_24, l32_25, l32_26, l32_27, l32_28, l32_29, l32_33, l32_40, l32_41, l32_44, l32_45, l32_59, l32_61, l32_91, l32_93, l32_123, l32_125, e81, v2, e3, na]
    obtain ⟨kk, v, k1, k2⟩ := key
    obtain ⟨sP, g1, g2, g3, g4, g5⟩ := R.push (N := N) (m' := m) (d' := d) (it := (0, [elN x i], 0)) (by omega) k1 (by show ¬ ((0 : Nat) = 2 ∨ (0 : Nat) = 3 ∨ (0 : Nat) = 6 ∨ (0 : Nat) = 8); decide) rfl
    rw [r_psh (N := N) h51 (by omega)] at g1
    have g1 : sP = pus s (rStk ((m, d, vs, (2, [x], i) :: I) :: G)).length kk v := by
      have := congrArg (fun o => o.map Prod.fst) g1
      exact (Option.some.inj this).symm
    rw [← g1] at k2
    obtain ⟨o1, o2, o3⟩ := g2.hd (m' := m) (d' := d)
    have RZ := RT _ o3
    have w82 : sP.2.2.1 82 (wStk ((m, d, vs, I) :: G)).length = Int32.ofNat i := by rw [g1]; exact v2
    have w25 : sP.2.2.1 25 kx = Int32.ofNat rr := by rw [g1]; exact h25
    have w73 : sP.1 73 = Int32.ofNat (G.length + 1) := by rw [g1]; exact h73
    have w69 : sP.1 69 = s.1 69 := g3
    have hst := r_store (N := N) (s := mI (mA sP 82 (upd (sP.2.2.1 82) (wStk ((m, d, vs, I) :: G)).length (Int32.ofNat (i + 1)))) 51 (Int32.ofNat (rStk ((m, d, vs, (2, [x], i) :: I) :: G)).length)) (G := G) (r := rr) (k := sP.2.2.1 49 (rStk ((m, d, vs, (2, [x], i) :: I) :: G)).length) (v := sP.2.2.1 50 (rStk ((m, d, vs, (2, [x], i) :: I) :: G)).length) w73 hG hr
    refine ⟨mI (mA sP 82 (upd (sP.2.2.1 82) (wStk ((m, d, vs, I) :: G)).length (Int32.ofNat (i + 1)))) 51 (Int32.ofNat (rStk ((m, d, vs, (2, [x], i) :: I) :: G)).length), sP.2.2.1 49 (rStk ((m, d, vs, (2, [x], i) :: I) :: G)).length, sP.2.2.1 50 (rStk ((m, d, vs, (2, [x], i) :: I) :: G)).length, ?_, RZ, o2, w69⟩
    have E1 : mf_315 N (Int32.ofNat kx) s1 = mf_315_55 N (Int32.ofNat kx) (Int32.ofNat (wStk ((m, d, vs, I) :: G)).length) s := by
      clear hst RZ o1 o2 o3 g1 g2 k2 w82 RT RU hv v3 v4 v5 eW
      generalize (wStk ((m, d, vs, I) :: G)).length = nw at *
      have sb : Int32.ofNat (nw + 1) - Int32.ofNat 1 = Int32.ofNat nw := by rw [← Int32.ofNat_sub _ _ (by omega)]; rfl
      have ne : ¬ i = lim x := by omega
      generalize lim x = lx at *
      unfold mf_315 mf_315_0 mf_315_4 mf_315_12
      simp (disch := omega) only [ev_S, ev_P, ↓reduceIte, Nat.reduceEqDiff, Nat.reduceLeDiff, Nat.reduceAdd, Nat.reduceMul, Nat.reduceSub, reduceCtorEq, l32_0, l32_1, l32_2, l32_3, l32_4, l32_5, l32_6, l32_7, l32_8, l32_9, l32_10, l32_11, l32_12, l32_13, l32_14, l32_15, l32_16, l32_17, l32_18, l32_19, l32_20, l32_21, l32_22, l32_23, l32_24, l32_25, l32_26, l32_27, l32_28, l32_29, l32_33, l32_40, l32_41, l32_44, l32_45, l32_59, l32_61, l32_91, l32_93, l32_123, l32_125, hstep, h66, h79, sb, v2, h83, ne]
    rw [E1, k2]
    clear RZ o2 o3 g1 g2 k2 RT RU hv v3 v4 v5 eW E1
    generalize (wStk ((m, d, vs, I) :: G)).length = nw at *
    generalize (rStk ((m, d, vs, (2, [x], i) :: I) :: G)).length = nr at *
    have sb : Int32.ofNat (nr + 1) - Int32.ofNat 1 = Int32.ofNat nr := by rw [← Int32.ofNat_sub _ _ (by omega)]; rfl
    unfold mf_315_95 mf_315_143
    simp (disch := omega) only [ev_S, ev_P, ↓reduceIte, Nat.reduceEqDiff, Nat.reduceLeDiff, Nat.reduceAdd, Nat.reduceMul, Nat.reduceSub, reduceCtorEq, l32_0, l32_1, l32_2, l32_3, l32_4, l32_5, l32_6, l32_7, l32_8, l32_9, l32_10, l32_11, l32_12, l32_13, l32_14, l32_15, l32_16, l32_17, l32_18, l32_19, l32_20, l32_21, l32_22, l32_23, l32_24, l32_25, l32_26, l32_27, l32_28, l32_29, l32_33, l32_40, l32_41, l32_44, l32_45, l32_59, l32_61, l32_91, l32_93, l32_123, l32_125, o1, sb, w82, w25, hst, l32_8000]
  · -- it ends
    refine ⟨_, ?_, RU⟩
    clear RT RU hv v3 v4 v5 eW
    generalize (wStk ((m, d, vs, I) :: G)).length = nw at *
    have sb : Int32.ofNat (nw + 1) - Int32.ofNat 1 = Int32.ofNat nw := by rw [← Int32.ofNat_sub _ _ (by omega)]; rfl
    have ib : i < 2147483648 := by omega
    rw [← hi2] at h83
    unfold mf_315 mf_315_0 mf_315_4 mf_315_12 mf_315_34
    simp (disch := omega) only [ev_S, ev_P, ↓reduceIte, Nat.reduceEqDiff, Nat.reduceLeDiff, Nat.reduceAdd, Nat.reduceMul, Nat.reduceSub, reduceCtorEq, l32_0, l32_1, l32_2, l32_3, l32_4, l32_5, l32_6, l32_7, l32_8, l32_9, l32_10, l32_11, l32_12, l32_13, l32_14, l32_15, l32_16, l32_17, l32_18, l32_19, l32_20, l32_21, l32_22, l32_23, l32_24, l32_25, l32_26, l32_27, l32_28, l32_29, l32_33, l32_40, l32_41, l32_44, l32_45, l32_59, l32_61, l32_91, l32_93, l32_123, l32_125, hstep, h66, h79, sb, v2, h83, h24, l32_8000]
end FOS
end
-- ### 98zm.pure.lean.txt
section
/-! ===== PURE: run (116): instructions: a for's next ===== -/
section FOT
variable {N : Nat} {X : Nat → Option zz_C} {t0 t t1 t2 : cS} {s0 s s' s1 s2 : mS} {u w f f' p h fu m m' d d' n k b z j : Nat} {code : List Ins} {Fs : List Fn} {T T' : Ty} {out out' : List Int32} {F G : List Fm} {sh sh' S0 : Nat → Option Nod} {vs vs' : List (Option Nod)} {I I' J : List It} {q r pl kk v : Int32} {x : Nod} {L L' : List Nat} {g : Fn}
theorem i_18 (hN : 170000 ≤ N) (C : CS t0 t p code Fs fu S0 ((m, 0, vs, I) :: G) sh T out) (R : RSm s0 s h code Fs fu ((m, 0, vs, I) :: G) sh T out) (K : CK code Fs fu ((m, 0, vs, I) :: G) sh T out n) (ho : (inA code m).1 = 18) : GO N X t0 s0 p h code Fs fu S0 t s n := by
  obtain ⟨u, w, f, g, C1, C2, C4, R1, R2, R4, P, hm, hcx, hrl, hG, ⟨b1, b2, b6⟩, hT, hol⟩ := open0 C R K
  obtain ⟨ec, er⟩ := cI_18 (code := code) (own := posC code m) (e := h) ho
  obtain ⟨hl, hp⟩ := K.ly0
  obtain ⟨hjb, L', hL', hjl⟩ := P.jmp hl (by unfold noJ; omega)
  obtain ⟨L2, z3, z4⟩ := K.nxt
  have hlen := code_len K.1.1.2.2.1 hcx
  have hzl := (K.1.1.1 g P.1).2.1
  have hbd := K.bd
  have hnx := P.2.2.2.2.2.1 (by omega)
  have hpb := P.2.1
  have hrr : (inA code m).2.2.1 < 8 + vs.length := P.2.2.2.2.1.1 (by omega)
  have hv14 := P.2.2.1.2
  rw [tgC_e (by omega)] at ec
  rw [tgR_e (by omega)] at er
  obtain ⟨hI, z5⟩ : kd I = 2 :: L' ∧ L2 = 5 :: 2 :: L' := by
    have h2 : kd I = 2 :: L' := by
      rcases hjl with z | z | z | z | z
      · omega
      · omega
      · exact z.2
      · omega
      · omega
    refine ⟨h2, ?_⟩
    generalize inA code m = c at *
    obtain ⟨o', jj, r0, aa, pp, xx, yy⟩ := c
    have z : o' = 18 := ho
    subst z
    have z3 : (match (generalizing := false) kd I with | 2 :: M => some (5 :: 2 :: M) | _ => none) = some L2 := z3
    rw [h2] at z3
    exact (Option.some.inj z3).symm
  obtain ⟨a, I', q1, q2, q3⟩ := kdC hI
  subst q1
  obtain ⟨x, hx1, hx2, hx3⟩ := P.2.2.2.1.1.2.2.1 q2
  obtain ⟨a1, a2, i⟩ := a
  have q2 : a1 = 2 := q2
  have hx1 : a2 = [x] := hx1
  subst q2 hx1
  have hn : kn x = 0 → ¬ ivN x < 0 := fun c => (hx2 c).1
  have hil : i ≤ lim x := by
    unfold lim
    split
    · rename_i c
      exact (hx2 c).2
    · rename_i c
      exact hx3 c
  have hx : wfN x ∧ x.1 ≤ 4 := by
    refine K.2.2.2.1 x ?_
    rw [cStk_2 (m' := m) (d' := 0)]
    exact List.mem_cons_of_mem _ List.mem_cons_self
  have hgd := gd_suf (m' := m) (d' := 0) (J := [((2, [x], i) : It)]) (I := I') K.2.2.2.1
  generalize (inA code m).2.2.2.2.1 = pl at *
  generalize hrr0 : (inA code m).2.2.1 = rr at *
  generalize hj : (inA code m).2.1 = j at *
  obtain ⟨D1, D2⟩ := C1.fet (N := N) (X := X) (n := n) (l1 := []) rfl C4 hm ec hcx (by omega)
  obtain ⟨s1, kx, y1, y2, y3, y4, y5, y6, ⟨y7, y8, y9, y10⟩, y11, y12⟩ := R1.fet (N := N) (l1 := []) hG rfl R4 hm er hrl
  have hop : mf_313 N (Int32.ofNat kx) s1 = mf_313_264 N (Int32.ofNat kx) s1 := r_op18 y3 y7
  have hop2 : ∀ s3, mf_315 N (Int32.ofNat kx) s1 = some (s3, none) → mf_313 N (Int32.ofNat kx) s1 = some (s3, none) := fun s3 e => by
    rw [hop]
    unfold mf_313_264 mf_313_269
    rw [e]
    rfl
  by_cases hs : T.1 < fu
  · have hst := c_step (N := N) (X := X) (t := jI t 49 17 (Int32.ofNat (posC code m + 0 + 1))) (q := pl) D1.1.2.1.1 D1.1.2.1.2.1 hT.1 hs
    have hT1 : okTy fu (T.1 + 1, T.2) := ⟨hT.1, hs, hT.2.2⟩
    have h30 := hT.2.2.1
    have hstep := r_step (N := N) y4 hT.1 hs
    obtain ⟨c1, c2⟩ := (D1.st).forG (N := N) (X := X) (gt := Int32.ofNat (posC code j)) (m' := j) (d' := 0) b2 hx.1 hn
    obtain ⟨r1, r2⟩ := (y4.st).forG (N := N) (m' := m) (d' := 0) hstep y3 y8 y9 b1 hbd.2.2.1 hx.1 hn hil (by omega) hG (by omega)
    obtain ⟨-, r2'⟩ := (y4.st).forG (N := N) (m' := j) (d' := 0) hstep y3 y8 y9 b1 hbd.2.2.1 hx.1 hn hil (by omega) hG (by omega)
    have hfirst : ∀ t3, cf_152 N X (Int32.ofNat (posC code j)) (jI (jI t 49 17 (Int32.ofNat (posC code m + 0 + 1))) 48 2 (Int32.ofNat (T.1 + 1))) = some (t3, .inl none) → ∀ Q, cf_141_L4 N X (Q + 1) 0 (Int32.ofNat n) t = cf_141_L4 N X Q 0 (Int32.ofNat (n + 1)) t3 := fun t3 ht Q => by
      rw [D2 Q]
      refine c_rdSM (by decide) (by decide) (by decide) hst (c_mv27.trans ?_)
      unfold cf_142_193 cf_142_198
      rw [ht]
      rfl
    by_cases hi : i < lim x
    · -- it goes on
      obtain ⟨t4, e1, e2, e3⟩ := c1 hi
      obtain ⟨s3, k3, v3, f1, f2, f3, f4⟩ := r1 hi
      have hel := elN_ok hx hi
      have p17 : kI t4 49 17 = Int32.ofNat (posC code m + 1) := e3
      obtain ⟨E1, E2⟩ := e2.fet (N := N) (X := X) (n := n + 1) (l1 := [((27 : Int32), Int32.ofNat (posC code j), pl)]) (dd := 1) rfl p17 hm ec hcx (by omega)
      obtain ⟨t5, g1, g2, g3, -⟩ := E1.store (N := N) (X := X) (m' := m) (d' := 0) (r := rr) (by rw [cStk_cons (m' := m) (d' := 0), cStk_2 (m' := m) (d' := 0)]; rw [cStk_2 (m' := m) (d' := 0)] at b2; show (cStk ((m, 0, vs, I') :: G)).length + 1 + 1 + 1 ≤ _; have b2 : (cStk ((m, 0, vs, I') :: G)).length + 1 + 1 ≤ 17500 := b2; omega) hG hrr hv14
      have CY := g2.yes (m' := m + 1) (d' := 0) (it := (5, [], 0)) (Or.inr rfl)
      have RY := (f2.store (m' := m) (d' := 0) f3 hrr hv14).yes (m' := m + 1) (d' := 0) (it := (5, [], 0)) (Or.inr rfl)
      refine goOn (k := 2) (j := 1) (by omega) (fun Q => ?_) (fun Q x2 => y11 _ (hop2 _ f1) RY.1.2.2.1.1 Q x2) CY C2 ?_ RY R2 ?_ (K.to P (by omega) (I' := (5, [], 0) :: (2, [x], i + 1) :: I') (by rw [z4, z5, ← q3]; rfl) ?_ ⟨ok5, ?_, P.2.2.2.1.2⟩ stV_len ?_ (sh_stS K.2.2.2.2.1 hel) hT1 ?_ ?_)
      · rw [show Q + 2 = Q + 1 + 1 from rfl, hfirst _ e1 (Q + 1), E2 Q]
        refine c_rdM (by decide) (by decide) (c_mv2.trans ?_)
        clear E1 E2 D1 D2 CY RY g2
        generalize jI t4 49 17 (Int32.ofNat (posC code m + 1 + 1)) = t1 at *
        unfold cf_142_152 cf_142_157 cf_142_296
        simp (disch := omega) only [ev_S, ev_C, ↓reduceIte, Nat.reduceEqDiff, Nat.reduceLeDiff, Nat.reduceAdd, Nat.reduceMul, Nat.reduceSub, reduceCtorEq, l32_0, l32_1, l32_2, l32_3, l32_4, l32_5, l32_6, l32_7, l32_8, l32_9, l32_10, l32_11, l32_12, l32_13, l32_14, l32_15, l32_16, l32_17, l32_18, l32_19, l32_20, l32_21, l32_22, l32_23, l32_24, l32_25, l32_26, l32_27, l32_28, l32_29, l32_33, l32_40, l32_41, l32_44, l32_45, l32_59, l32_61, l32_91, l32_93, l32_123, l32_125, g1]
      · rw [g3]
        show Int32.ofNat (posC code m + 1 + 1) = Int32.ofNat (posC code (m + 1) + 0)
        rw [posC_s hm, show clen (inA code m) = 2 by unfold clen; rw [ho]; rfl]
      · rw [(stM_i (s := s3) (r := rr) (n := G.length) (k := k3) (v := v3)).1, f4]
        show s1.1 69 = _
        rw [y5, y1]
        show Int32.ofNat (ob0 h + posR code m + 0 + 1) = Int32.ofNat (ob0 h + posR code (m + 1) + 0)
        rw [posR_s hm, show rlen (inA code m) = 1 by unfold rlen; rw [ho]; rfl]
        rfl
      · intro y hy
        rcases List.mem_cons.mp hy with e | e
        · rw [e]; exact Nat.le_refl 5
        · rcases List.mem_cons.mp e with e | e
          · rw [e]; show (2 : Nat) ≤ 5; omega
          · exact hp.tl y e
      · refine ⟨by show (2 : Nat) ≤ 8; omega, fun q => (by rcases q with q | q <;> cases q), fun _ => ⟨x, rfl, fun c0 => ⟨hn c0, ?_⟩, fun c0 => ?_⟩, fun q => (by cases q), fun q => (by cases q), fun q => (by cases q)⟩
        · unfold lim at hi
          rw [if_pos c0] at hi
          exact hi
        · unfold lim at hi
          rw [if_neg c0] at hi
          exact hi
      · refine gdS_stV (m := m) (d := 0) ?_ hel
        rw [cStk_cons (m' := m) (d' := 0), (iC_no (it := (5, [], 0)) (Or.inr rfl)).1, cStk_2 (m' := m) (d' := 0)]
        exact gd_c gd_Z (gd_c (fun y hy => by cases hy; exact hx) hgd)
      · have f5 : crI (2, [x], i + 1) = 0 := rfl
        have f6 : crI (2, [x], i) = 0 := rfl
        rw [crL_c, crL_c, crL_c, cr5 (y := (5, [], 0)) rfl, f5, f6, pv5 (y := (2, [x], i)) (Or.inr (Or.inr (Or.inl rfl)))]
        show 2 + (8 + (0 + crL I')) + 20 * T.1 + 60 * T.2.1 + 0 ≤ 0 + crL I' + 20 * (T.1 + 1) + 60 * T.2.1 + _
        omega
      · rw [n5I_c, n5I_c, n5I_c]
        show out.length + 9100 * (1 + (0 + n5I I')) + 9100 * T.1 ≤ out.length + 9100 * (0 + n5I I') + 9100 * (T.1 + 1)
        omega
    · -- it ends
      have hi : i = lim x := by omega
      obtain ⟨t4, e1, e2⟩ := c2 hi
      obtain ⟨s3, f1, f2⟩ := r2' hi
      refine goOn (k := 1) (j := 1) (by omega) (hfirst _ e1) (fun Q x2 => y11 _ (hop2 _ f1) f2.1.2.2.1.1 Q x2) (e2.pc (Or.inl rfl)) C2 rfl f2.pc R2 rfl (K.to P hjb (I' := I') (by rw [q3]; exact hL') hp.tl P.2.2.2.1.2 rfl hgd K.2.2.2.2.1 hT1 ?_ ?_)
      · have f6 : crI (2, [x], i) = 0 := rfl
        rw [crL_c, f6, pv5 (y := (2, [x], i)) (Or.inr (Or.inr (Or.inl rfl)))]
        show 1 + crL I' + 20 * T.1 + 60 * T.2.1 + 0 ≤ 0 + crL I' + 20 * (T.1 + 1) + 60 * T.2.1 + _
        omega
      · rw [n5I_c]
        show out.length + 9100 * n5I I' + 9100 * T.1 ≤ out.length + 9100 * (0 + n5I I') + 9100 * (T.1 + 1)
        omega
  · obtain ⟨e1', e2', e3'⟩ := r_nost (N := N) y4 hT.1 hs hT.2.1
    rw [y6] at e1' e2' e3'
    refine nofuel (l1 := 0) (j0 := 0) C1 D2 (by decide) hT hs e2' e3' (y12 _ 10 (hop2 _ ?_) rfl (by omega)) hol hG
    have h66 : (trb s1 (Int32.ofNat 10) pl).1 66 = Int32.ofNat 10 := rfl
    clear e2' e3'
    generalize trb s1 (Int32.ofNat 10) pl = sT at *
    unfold mf_315 mf_315_0 mf_315_4 mf_315_11
    simp (disch := omega) only [ev_S, ev_P, ↓reduceIte, Nat.reduceEqDiff, Nat.reduceLeDiff, Nat.reduceAdd, Nat.reduceMul, Nat.reduceSub, reduceCtorEq, l32_0, l32_1, l32_2, l32_3, l32_4, l32_5, l32_6, l32_7, l32_8, l32_9, l32_10, l32_11, l32_12, l32_13, l32_14, l32_15, l32_16, l32_17, l32_18, l32_19, l32_20, l32_21, l32_22, l32_23, l32_24, l32_25, l32_26, l32_27, l32_28, l32_29, l32_33, l32_40, l32_41, l32_44, l32_45, l32_59, l32_61, l32_91, l32_93, l32_123, l32_125, e1', h66]
end FOT
end
-- ### 98zn.pure.lean.txt
section
/-! ===== PURE: run (117): a call ends (the class) ===== -/
section LEA
variable {N : Nat} {X : Nat → Option zz_C} {t0 t t1 t2 : cS} {u w p fu m m' d d' n k b j D : Nat} {code : List Ins} {Fs : List Fn} {T : Ty} {out : List Int32} {G F : List Fm} {sh S0 : Nat → Option Nod} {vs : List (Option Nod)} {I J : List It} {q z z' : Int32} {x : Nod} {R : List (Nat × Nat × Nat)}
theorem jI_self {a b : Nat} (h : kI t a b = z) : jI t a b z = t := by
  unfold jI
  refine Prod.ext ?_ rfl
  funext k f
  show (if k = a ∧ f = b then z else kI t k f) = kI t k f
  split
  · rename_i e
    rw [e.1, e.2, h]
  · rfl
theorem jI_jI {a b : Nat} : jI (jI t a b z) a b z' = jI t a b z' := by
  refine Prod.ext ?_ rfl
  funext k f
  show (if k = a ∧ f = b then z' else if k = a ∧ f = b then z else kI t k f) = (if k = a ∧ f = b then z' else kI t k f)
  split
  · rfl
  · rfl
theorem tIt_d : ∀ {I : List It}, ∀ y ∈ tIt b d I, y.2.2 = d
  | [], y, hy => by cases hy
  | a :: I, y, hy => by
    by_cases c : a.1 = 3
    · have e : tIt b d (a :: I) = (a.2.2, (cIt I).length + b, d) :: tIt b d I := if_pos c
      rw [e] at hy
      rcases List.mem_cons.mp hy with q | q
      · rw [q]
      · exact tIt_d y q
    · have e : tIt b d (a :: I) = tIt b d I := if_neg c
      rw [e] at hy
      exact tIt_d y hy
theorem tStk_d : ∀ {F : List Fm}, ∀ y ∈ tStk F, y.2.2 ≤ F.length
  | [], y, hy => by cases hy
  | a :: F, y, hy => by
    have hy : y ∈ tIt (a.2.2.1.length + (cStk F).length) (F.length + 1) a.2.2.2 ++ tStk F := hy
    rcases List.mem_append.mp hy with q | q
    · rw [tIt_d y q]
      exact Nat.le_refl _
    · exact Nat.le_succ_of_le (tStk_d y q)
/-- the tries of the call go -/
theorem c_unt {v : Int64} (hD : D ≤ 10) (hR : ∀ a ∈ R, a.2.2 < D) : ∀ {A : List (Nat × Nat × Nat)} {t : cS}, stk (tryP code) (fun i => ((kA t 55).2 i, (kA t 56).2 i, (kA t 57).2 i)) (A ++ R) → (A ++ R).length ≤ (kA t 55).1 → (kA t 55).1 ≤ 1000 → kI t 49 15 = Int32.ofNat (A ++ R).length → kI t 49 11 = Int32.ofNat D → (∀ a ∈ A, a.2.2 = D) → ∀ Q, A.length < Q → cf_158_L7 N X Q 0 v t = cf_158_43 N X v (jI t 49 15 (Int32.ofNat R.length))
  | [], t, hs, hl, hk, h15, h11, hA, Q, hQ => by
    obtain ⟨Q', rfl⟩ : ∃ Q', Q = Q' + 1 := ⟨Q - 1, by have : 0 < Q := hQ; omega⟩
    have h15 : kI t 49 15 = Int32.ofNat R.length := h15
    rw [jI_self h15]
    show cf_158_5 N X (cf_158_L7 N X Q') v t = _
    cases R with
    | nil =>
      have h15 : kI t 49 15 = Int32.ofNat 0 := h15
      unfold cf_158_5
      simp (disch := omega) only [ev_S, ev_C, ↓reduceIte, Nat.reduceEqDiff, Nat.reduceLeDiff, Nat.reduceAdd, Nat.reduceMul, Nat.reduceSub, reduceCtorEq, l32_0, l32_1, l32_2, l32_3, l32_4, l32_5, l32_6, l32_7, l32_8, l32_9, l32_10, l32_11, l32_12, l32_13, l32_14, l32_15, l32_16, l32_17, l32_18, l32_19, l32_20, l32_21, l32_22, l32_23, l32_24, l32_25, l32_26, l32_27, l32_28, l32_29, l32_33, l32_40, l32_41, l32_44, l32_45, l32_59, l32_61, l32_91, l32_93, l32_123, l32_125, h15]
    | cons r R =>
      have h15 : kI t 49 15 = Int32.ofNat (R.length + 1) := h15
      have hl : R.length + 1 ≤ (kA t 55).1 := hl
      have h1 : (kA t 55).2 R.length = Int32.ofNat r.2.2 := hs.1.1
      have h2 := hR r List.mem_cons_self
      have sb : Int32.ofNat (R.length + 1) - Int32.ofNat 1 = Int32.ofNat R.length := by rw [← Int32.ofNat_sub _ _ (by omega)]; rfl
      clear hs hR hA
      generalize R.length = nr at *
      generalize r.2.2 = rd at *
      generalize hke : (kA t 55).1 = ke at *
      have n0 : ¬ nr + 1 ≤ 0 := by omega
      unfold cf_158_5 cf_158_12
      simp (disch := omega) only [ev_S, ev_C, ↓reduceIte, Nat.reduceEqDiff, Nat.reduceLeDiff, Nat.reduceAdd, Nat.reduceMul, Nat.reduceSub, reduceCtorEq, l32_0, l32_1, l32_2, l32_3, l32_4, l32_5, l32_6, l32_7, l32_8, l32_9, l32_10, l32_11, l32_12, l32_13, l32_14, l32_15, l32_16, l32_17, l32_18, l32_19, l32_20, l32_21, l32_22, l32_23, l32_24, l32_25, l32_26, l32_27, l32_28, l32_29, l32_33, l32_40, l32_41, l32_44, l32_45, l32_59, l32_61, l32_91, l32_93, l32_123, l32_125, h15, n0, sb, hke, h1, h11, h2]
  | a :: A, t, hs, hl, hk, h15, h11, hA, Q, hQ => by
    obtain ⟨Q', rfl⟩ : ∃ Q', Q = Q' + 1 := ⟨Q - 1, by have : A.length + 1 < Q := hQ; omega⟩
    have h15 : kI t 49 15 = Int32.ofNat ((A ++ R).length + 1) := h15
    have hl : (A ++ R).length + 1 ≤ (kA t 55).1 := hl
    have h1 : (kA t 55).2 (A ++ R).length = Int32.ofNat a.2.2 := hs.1.1
    have h2 := hA a List.mem_cons_self
    rw [h2] at h1
    have ih := c_unt (v := v) hD hR (A := A) (t := jI t 49 15 (Int32.ofNat (A ++ R).length)) hs.2 (Nat.le_trans (Nat.le_succ _) hl) hk rfl h11 (fun y hy => hA y (List.mem_cons_of_mem _ hy)) Q' (by have : A.length + 1 < Q' + 1 := hQ; omega)
    rw [jI_jI] at ih
    rw [← ih]
    show cf_158_5 N X (cf_158_L7 N X Q') v t = _
    clear hs hR hA ih
    generalize (A ++ R).length = nr at *
    generalize hke : (kA t 55).1 = ke at *
    have sb : Int32.ofNat (nr + 1) - Int32.ofNat 1 = Int32.ofNat nr := by rw [← Int32.ofNat_sub _ _ (by omega)]; rfl
    have n0 : ¬ nr + 1 ≤ 0 := by omega
    have n1 : ¬ D < D := by omega
    unfold cf_158_5 cf_158_12 cf_158_30
    simp (disch := omega) only [ev_S, ev_C, ↓reduceIte, Nat.reduceEqDiff, Nat.reduceLeDiff, Nat.reduceAdd, Nat.reduceMul, Nat.reduceSub, reduceCtorEq, l32_0, l32_1, l32_2, l32_3, l32_4, l32_5, l32_6, l32_7, l32_8, l32_9, l32_10, l32_11, l32_12, l32_13, l32_14, l32_15, l32_16, l32_17, l32_18, l32_19, l32_20, l32_21, l32_22, l32_23, l32_24, l32_25, l32_26, l32_27, l32_28, l32_29, l32_33, l32_40, l32_41, l32_44, l32_45, l32_59, l32_61, l32_91, l32_93, l32_123, l32_125, h15, n0, sb, hke, h1, h11, n1]
theorem CX.leave (hN : 2000 ≤ N) (C : CX t0 t p code Fs fu S0 u w ((m, d, vs, (0, [x], j) :: I) :: G) sh T out) (hl : (cStk ((m, d, vs, (0, [x], j) :: I) :: G)).length ≤ 17500) (hG : G.length ≤ 9) : ∃ t4 v, CX t0 t4 p code Fs fu S0 u w G sh T out ∧ cN (cel t4) u v x ∧ kI t4 49 17 = Int32.ofNat (cBk code G) ∧ ∀ t5, cf_165 N X v t4 = some (t5, .inl none) → kI t5 49 11 = Int32.ofNat G.length → cf_158 N X t = some (jI t5 49 18 (if G = [] then Int32.ofNat 0 else Int32.ofNat 1), .inl none) := by
  obtain ⟨t2, v, a1, a2, a3, a4, a5⟩ := C.pop (N := N) (X := X) (m' := m) (d' := d) (o := some x) (by omega) (by show ¬ (0 : Nat) = 3; decide) rfl
  have a2 : cN (cel t) u v x := a2
  have h3 := a3
  obtain ⟨⟨c1, c2, c3, c4, c5, c6⟩, ⟨z1, z2, z3, z4, z5, z6, z7, z8⟩, c7, c8⟩ := a3
  have z7 : kI t2 49 11 = Int32.ofNat (G.length + 1) := z7
  have E1 := c_unt (N := N) (X := X) (v := v) (D := G.length + 1) (R := tStk G) (code := code) (by omega) (fun a ha => Nat.lt_succ_of_le (tStk_d a ha)) (A := tIt (vs.length + (cStk G).length) (G.length + 1) I) (t := t2) z3 z5.1 z5.2.2.2.2 z8 z7 (fun y hy => tIt_d y hy) N (by
    have h1 := z5.1
    have h2 := z5.2.2.2.2
    have h1 : (tIt (vs.length + (cStk G).length) (G.length + 1) I ++ tStk G).length ≤ _ := h1
    rw [List.length_append] at h1
    omega)
  have k53 : (kA t2 53).2 G.length = Int32.ofNat (cStk G).length := z2.1
  have k54 : (kA t2 54).2 G.length = Int32.ofNat (cBk code G) := z2.2.1
  have l53 : (kA t2 53).1 = 10 := z4.1
  have l54 : (kA t2 54).1 = 10 := z4.2.1
  have gg : ∀ (t : cS) (f : Nat) (z : Int32), gf e89 aNo t (jI t 49 f z) := fun t f z => g89 (Or.inr rfl)
  have C4 : CX t0 (jI (jI (jI (jI t2 49 15 (Int32.ofNat (tStk G).length)) 49 11 (Int32.ofNat G.length)) 49 8 (Int32.ofNat (cStk G).length)) 49 17 (Int32.ofNat (cBk code G))) p code Fs fu S0 u w G sh T out := by
    refine h3.cy.tk (T' := T) (l := cIt I ++ vs.reverse) ((((gg _ _ _).tr2 (gg _ _ _)).tr2 (gg _ _ _)).tr2 (gg _ _ _)) c2 c3 c5 ?_ z2.2.2 z3.app ?_ rfl rfl rfl
    · show cIt I ++ (vs.reverse ++ cStk G) = _
      rw [List.append_assoc]
    · show _ ≤ (tIt (vs.length + (cStk G).length) (G.length + 1) I ++ tStk G).length
      rw [List.length_append]
      omega
  refine ⟨_, v, C4, ?_, rfl, fun t5 h5 h11 => ?_⟩
  · rw [← a5] at a2
    exact a2
  · clear C4
    have E0 : cf_158 N X t = cf_158_L7 N X N 0 v t2 := by
      clear E1
      unfold cf_158 cf_158_0 cf_158_4
      simp (disch := omega) only [ev_S, ev_C, ↓reduceIte, Nat.reduceEqDiff, Nat.reduceLeDiff, Nat.reduceAdd, Nat.reduceMul, Nat.reduceSub, reduceCtorEq, l32_0, l32_1, l32_2, l32_3, l32_4, l32_5, l32_6, l32_7, l32_8, l32_9, l32_10, l32_11, l32_12, l32_13, l32_14, l32_15, l32_16, l32_17, l32_18, l32_19, l32_20, l32_21, l32_22, l32_23, l32_24, l32_25, l32_26, l32_27, l32_28, l32_29, l32_33, l32_40, l32_41, l32_44, l32_45, l32_59, l32_61, l32_91, l32_93, l32_123, l32_125, a1]
    rw [E0, E1]
    have h15 : kI (jI t2 49 15 (Int32.ofNat (tStk G).length)) 49 11 = Int32.ofNat (G.length + 1) := z7
    have k53' : (kA (jI t2 49 15 (Int32.ofNat (tStk G).length)) 53).2 G.length = Int32.ofNat (cStk G).length := k53
    have k54' : (kA (jI t2 49 15 (Int32.ofNat (tStk G).length)) 54).2 G.length = Int32.ofNat (cBk code G) := k54
    have l53' : (kA (jI t2 49 15 (Int32.ofNat (tStk G).length)) 53).1 = 10 := l53
    have l54' : (kA (jI t2 49 15 (Int32.ofNat (tStk G).length)) 54).1 = 10 := l54
    clear E0 E1 C h3 z1 z2 z3 z5 z6 z8 c1 c6 c7 c8 a1 a2 a4 a5
    generalize jI t2 49 15 (Int32.ofNat (tStk G).length) = t3 at *
    have sb : Int32.ofNat (G.length + 1) - Int32.ofNat 1 = Int32.ofNat G.length := by rw [← Int32.ofNat_sub _ _ (by omega)]; rfl
    have n0 : ¬ G.length + 1 ≤ 0 := by omega
    have fit0 : zz_fit .boolean (.int (Int32.ofNat 0)) = true := rfl
    have fit1 : zz_fit .boolean (.int (Int32.ofNat 1)) = true := rfl
    by_cases c : G = []
    · rw [if_pos c]
      have hg0 : G.length = 0 := by rw [c]; rfl
      clear c
      generalize G.length = ng at *
      subst hg0
      unfold cf_158_43 cf_158_50 cf_158_86 cf_158_91 cf_158_103 cf_158_104
      simp (disch := omega) only [ev_S, ev_C, ↓reduceIte, Nat.reduceEqDiff, Nat.reduceLeDiff, Nat.reduceAdd, Nat.reduceMul, Nat.reduceSub, reduceCtorEq, l32_0, l32_1, l32_2, l32_3, l32_4, l32_5, l32_6, l32_7, l32_8, l32_9, l32_10, l32_11, l32_12, l32_13, l32_14, l32_15, l32_16, l32_17, l32_18, l32_19, l32_20, l32_21, l32_22, l32_23, l32_24, l32_25, l32_26, l32_27, l32_28, l32_29, l32_33, l32_40, l32_41, l32_44, l32_45, l32_59, l32_61, l32_91, l32_93, l32_123, l32_125, h15, n0, sb, k53', k54', l53', l54', h5, h11, fit0]
    · rw [if_neg c]
      have hg0 : ¬ G.length ≤ 0 := by
        intro q
        exact c (List.length_eq_zero_iff.mp (Nat.le_zero.mp q))
      clear c
      generalize G.length = ng at *
      unfold cf_158_43 cf_158_50 cf_158_86 cf_158_91 cf_158_99 cf_158_104
      simp (disch := omega) only [ev_S, ev_C, ↓reduceIte, Nat.reduceEqDiff, Nat.reduceLeDiff, Nat.reduceAdd, Nat.reduceMul, Nat.reduceSub, reduceCtorEq, l32_0, l32_1, l32_2, l32_3, l32_4, l32_5, l32_6, l32_7, l32_8, l32_9, l32_10, l32_11, l32_12, l32_13, l32_14, l32_15, l32_16, l32_17, l32_18, l32_19, l32_20, l32_21, l32_22, l32_23, l32_24, l32_25, l32_26, l32_27, l32_28, l32_29, l32_33, l32_40, l32_41, l32_44, l32_45, l32_59, l32_61, l32_91, l32_93, l32_123, l32_125, h15, n0, sb, k53', k54', l53', l54', h5, h11, hg0, fit1]
end LEA
end
-- ### 98zo.pure.lean.txt
section
/-! ===== PURE: run (118): a call ends (the reference); the run ends ===== -/
section LER
variable {N : Nat} {X : Nat → Option zz_C} {t0 t t1 t2 : cS} {s0 s s1 s2 : mS} {u w f p h fu m m' d d' n k b j : Nat} {code : List Ins} {Fs : List Fn} {T : Ty} {out : List Int32} {G F : List Fm} {sh S0 : Nat → Option Nod} {vs : List (Option Nod)} {I J : List It} {q z z' : Int32} {x : Nod} {v : Int64}
/-- the call is off -/
abbrev lvS (s : mS) (h : Nat) (code : List Ins) (G : List Fm) : mS := mI (mI (mI (mI s 73 (Int32.ofNat G.length)) 79 (Int32.ofNat (wStk G).length)) 51 (Int32.ofNat (rStk G).length)) 69 (rBk h code G)
theorem RXm.leave (R : RXm s0 s h code Fs fu f ((m, d, vs, I) :: G) sh T out) : RXm s0 (lvS s h code G) h code Fs fu f G sh T out := by
  obtain ⟨r1, ⟨b1, b2, b3, b4, b5, b6, b7, b8⟩, r3⟩ := R
  exact ⟨(((r1.I (by omega)).I (by omega)).I (by omega)).I (by omega), ⟨b1.app, rFr.loc (s := s) (fun _ _ _ _ _ => rfl) (fun _ _ => ⟨rfl, rfl⟩) (Nat.le_refl _) (fun _ _ => rfl) b2.2.2.2.2, b3.app, b4, b5, rfl, rfl, b8⟩, rfl⟩
theorem r_leave {nr : Nat} (R : RXm s0 s h code Fs fu f ((m, d, vs, I) :: G) sh T out) (hG : G.length ≤ 9) (h51 : s.1 51 = Int32.ofNat nr) (hn : nr < 9000) (e : mf_291 N (s.2.2.1 49 nr) (s.2.2.1 50 nr) (lvS s h code G) = some (s2, none)) : mf_314_260 N s = some (s2, none) := by
  obtain ⟨r1, ⟨b1, ⟨c1, c2, c3, c4, c5⟩, b3, b4, b5, b6, b7, b8⟩, r3⟩ := R
  have b6 : s.1 73 = Int32.ofNat (G.length + 1) := b6
  have sb : Int32.ofNat (G.length + 1) - Int32.ofNat 1 = Int32.ofNat G.length := by rw [← Int32.ofNat_sub _ _ (by omega)]; rfl
  clear r1 b1 c4 c5 b3 b4 b5 b7 b8 r3
  unfold lvS at e
  generalize (rStk G).length = nr' at *
  generalize (wStk G).length = nw' at *
  generalize rBk h code G = rb at *
  generalize G.length = ng at *
  unfold mf_314_260 mf_314_337
  simp (disch := omega) only [ev_S, ev_P, ↓reduceIte, Nat.reduceEqDiff, Nat.reduceLeDiff, Nat.reduceAdd, Nat.reduceMul, Nat.reduceSub, reduceCtorEq, l32_0, l32_1, l32_2, l32_3, l32_4, l32_5, l32_6, l32_7, l32_8, l32_9, l32_10, l32_11, l32_12, l32_13, l32_14, l32_15, l32_16, l32_17, l32_18, l32_19, l32_20, l32_21, l32_22, l32_23, l32_24, l32_25, l32_26, l32_27, l32_28, l32_29, l32_33, l32_40, l32_41, l32_44, l32_45, l32_59, l32_61, l32_91, l32_93, l32_123, l32_125, h51, b6, sb, c1, c2, c3, e]
/-- the outermost call gave -/
theorem fin_ok (C : CX t0 t p code Fs fu S0 u w [] sh T out) (hu : u ≤ 200000) (R : RXm s0 s h code Fs fu f [] sh T out) (hf : f ≤ 160000) (hx : cN (cel t) u v x) (hw : wfN x ∧ x.1 ≤ 4) (hs : ∀ i, i < 8 → ∀ x, sh i = some x → wfN x ∧ x.1 ≤ 4) (hr : rvl (s.2.2.1 47) f z z' x) (ho : out.length ≤ 200000000) : ∃ t5 s5, cf_165 N X v t = some (t5, .inl none) ∧ mf_291 N z z' s = some (s5, none) ∧ kI t5 49 11 = Int32.ofNat 0 ∧ s5.1 73 = Int32.ofNat 0 ∧ s5.1 66 = Int32.ofNat 0 ∧ FIN t0 (jI t5 49 18 (Int32.ofNat 0)) s0 s5 S0 := by
  have hm := C.cy.mOK
  obtain ⟨⟨a1, ⟨b1, b2, b3, b4, b5⟩, a3, a4, a5, a6⟩, ⟨z1, z2, z3, z4, z5, z6, z7, z8⟩, c3, c4⟩ := C
  obtain ⟨r1, ⟨m1, m2, m3, m4, m5, m6, m7, m8⟩, r3⟩ := R
  obtain ⟨q0, ⟨q1, q2, q3, q4, q5⟩, ⟨q6, q7⟩, q8, q9⟩ := r1
  obtain ⟨t5, e1, e2, e3, e4, e5⟩ := c_push (N := N) (X := X) (v := v) (o := some x) c3 z1 c4 (Nat.zero_le _) hx
  have r3 : s.1 51 = Int32.ofNat 0 := r3
  have hp := r_psh (N := N) (k := z) (v := z') r3 (by omega)
  have g18 : gf e89 aNo t5 (jI t5 49 18 (Int32.ofNat 0)) := g89 (Or.inr rfl)
  have gA : ∀ k, ¬ k = 52 → ¬ k = 111 → kA t5 k = kA t k ∧ kB t5 k = kB t k := fun k k1 k2 => by
    have := e4.2.2.2.1 k k1 k2
    exact ⟨this.1, this.2.1⟩
  have gI : ∀ k f, ¬ (k = 49 ∧ f = 8) → kI t5 k f = kI t k f := fun k f r => e4.1 k f r
  have ec : cel t5 = cel t := by unfold cel; rw [(gA 43 (by omega) (by omega)).2]
  refine ⟨t5, _, e1, hp, by rw [gI 49 11 (by omega)]; exact z7, m6, q6, ?_⟩
  refine ⟨?_, ?_, ?_, ⟨out, ?_, ?_, ho⟩, ⟨?_, ?_, ?_, ?_, ?_, ?_, ?_⟩, Or.inr ⟨q6, u, w, f, sh, x, ?_, hu, hf, m8, ?_, ⟨?_, hw⟩, ?_, fun i hi => ⟨?_, ?_, ?_, ?_, hs i hi⟩⟩⟩
  · refine (a6.tr2 (e4.mono2 (fun k f q => ?_) (fun k q => ?_))).tr2 (g18.mono2 (fun k f q => ?_) (fun k q => q.elim))
    · have := q.1
      show k = 42 ∨ k = 45 ∨ (k = 48 ∧ ¬ f = 0) ∨ k = 49 ∨ k = 58
      omega
    · have q : k = 52 := q
      show 43 ≤ k ∧ k ≤ 60
      omega
    · show k = 42 ∨ k = 45 ∨ (k = 48 ∧ ¬ f = 0) ∨ k = 49 ∨ k = 58
      omega
  · refine q9.tr ⟨⟨fun k r => ?_, fun _ _ => rfl, fun k r => ?_, fun _ _ => rfl⟩, fun _ _ => rfl⟩
    · unfold iRn at r
      exact if_neg (by omega)
    · unfold aRn at r
      show (if k = 50 then _ else if k = 49 then _ else s.2.2.1 k) = _
      rw [if_neg (by omega), if_neg (by omega)]
  · obtain ⟨n1, n2, n3⟩ := hm
    refine ⟨?_, ⟨e2.2.2.1, e2.2.2.2⟩, ?_⟩
    · show (kA t5 53).1 = 10 ∧ (kA t5 54).1 = 10 ∧ (kB t5 50).1 = 8 ∧ (kA t5 51).1 = 8 ∧ (kA t5 60).1 = 64
      rw [(gA 53 (by omega) (by omega)).1, (gA 54 (by omega) (by omega)).1, (gA 50 (by omega) (by omega)).2, (gA 51 (by omega) (by omega)).1, (gA 60 (by omega) (by omega)).1]
      exact n1
    · show (kA t5 56).1 = (kA t5 55).1 ∧ (kA t5 57).1 = (kA t5 55).1 ∧ 1 ≤ (kA t5 55).1 ∧ (kA t5 55).1 ≤ 1000
      rw [(gA 55 (by omega) (by omega)).1, (gA 56 (by omega) (by omega)).1, (gA 57 (by omega) (by omega)).1]
      exact n3
  · exact (a4.keep2 e4 (by intro q; have := q.1; omega) (by show ¬ (46 : Nat) = 52; decide) (by show ¬ (47 : Nat) = 52; decide)).keep2 g18 (by decide) (fun q => q) (fun q => q)
  · exact q8
  · show kI t5 48 6 = s.1 66
    rw [gI 48 6 (by omega), a3.1, q6]
  · show kI t5 48 7 = s.1 67
    rw [gI 48 7 (by omega), a3.2.1, q7]
  · show kI t5 48 8 = (if s.1 66 = 9 then s.1 65 else 0)
    rw [gI 48 8 (by omega), a3.2.2, q6]
    rfl
  · show kI t5 48 2 = s.1 60
    rw [gI 48 2 (by omega), b2, q2]
  · show kI t5 48 3 = s.1 62
    rw [gI 48 3 (by omega), b3, q3]
  · show kI t5 48 4 = s.1 63
    rw [gI 48 4 (by omega), b4, q4]
  · show kI t5 48 5 = s.1 64
    rw [gI 48 5 (by omega), b5, q5]
  · exact g18.hp e5 (by decide) (by decide) (fun q => q) (fun q => q) (fun q => q)
  · exact e3
  · exact e2.1.1
  · exact hr
  · show cC (cel t5) u ((kB t5 50).2 i) (sh i)
    rw [ec, (gA 50 (by omega) (by omega)).2]
    exact (z6 i hi).1
  · show (kA t5 51).2 i = 0 ∨ (kA t5 51).2 i = 1
    rw [(gA 51 (by omega) (by omega)).1]
    exact (z6 i hi).2.1
  · show (kA t5 51).2 i = 0 → sh i = S0 i
    rw [(gA 51 (by omega) (by omega)).1]
    exact (z6 i hi).2.2
  · exact m4 i hi
end LER
end
-- ### 98zp.pure.lean.txt
section
/-! ===== PURE: run (119): back in the caller ===== -/
section RET
variable {N : Nat} {X : Nat → Option zz_C} {t0 t t1 t2 : cS} {s0 s s1 s2 : mS} {u w f p h fu m m' d d' n k b j m1 m2 d1 d2 : Nat} {code : List Ins} {Fs : List Fn} {T : Ty} {out : List Int32} {G F G1 : List Fm} {sh S0 : Nat → Option Nod} {vs vs1 : List (Option Nod)} {I J I1 I2 : List It} {q z z' : Int32} {x : Nod} {v : Int64} {L : List Nat} {g : Fn}
theorem CK.ret (K : CK code Fs fu ((m, d, vs, I) :: (m1, d1, vs1, I1) :: G1) sh T out n) (ty : tyA code (m2, d2, vs1, I2)) (hi : inF code Fs (m2, d2, vs1, I2)) (hg : gdS (cStk ((m2, d2, vs1, I2) :: G1))) (hp : k + crL I2 + pvI I + pvI I1 ≤ 4 + crL I + crL I1 + pvI I2) (h5 : n5I I2 ≤ n5I I + n5I I1) : CK code Fs fu ((m2, d2, vs1, I2) :: G1) sh T out (n + k) := by
  obtain ⟨⟨h1, h2⟩, h3, ⟨a, G', e, t1, t2, t3⟩, h6, h7, h8, h9⟩ := K
  cases e
  refine ⟨⟨h1, h2⟩, ?_, ⟨_, G1, rfl, ty, hi, fun a ha => t3 a (List.mem_cons_of_mem _ ha)⟩, hg, h7, ?_, ?_⟩
  · have h3 : G1.length + 1 + 1 ≤ 10 := h3
    show G1.length + 1 ≤ 10
    omega
  · have h8 : n + (4 + crL I + (4 + crL I1 + cr G1)) ≤ 20 * T.1 + 60 * T.2.1 + (pvI I + (pvI I1 + pv G1)) + 4 := h8
    show n + k + (4 + crL I2 + cr G1) ≤ 20 * T.1 + 60 * T.2.1 + (pvI I2 + pv G1) + 4
    omega
  · have h9 : out.length + 9100 * (n5I I + (n5I I1 + n5 G1)) ≤ 9100 * T.1 := h9
    show out.length + 9100 * (n5I I2 + n5 G1) ≤ 9100 * T.1
    omega
/-- what is known of a call that waits -/
theorem plF (hP : PGc code Fs) (hi : inF code Fs (m1, d1, vs1, I1)) : ∃ g, PL code Fs m1 vs1 I1 g := by
  obtain ⟨g, g1, g2, g3, g4, g5⟩ := hi
  have hF := hP.1 g g1
  have g4 : vs1.length = g.2.2.2.1 := g4
  have g2 : g.2.2.2.2.1 ≤ m1 := g2
  have g3 : m1 < g.2.2.2.2.2 := g3
  refine ⟨g, g1, ⟨g2, g3, by have := hF.2.1; omega⟩, ⟨g4, by rw [g4]; exact hF.2.2.2.2.2.2.1.2.1⟩, g5, by rw [g4]; exact hF.2.2.2.1 m1 g2 g3, fun q => ?_, hF.2.2.2.2.1⟩
  by_cases e : m1 = g.2.2.2.2.2 - 1
  · exact absurd (by rw [e]; exact hF.2.2.2.2.2.1) q
  · omega
theorem nxF (hP : PGc code Fs) (hm : m1 < code.length) (hl : lyo (code.take m1) = some L) : ∃ L', eff (inA code m1) L = some L' ∧ lyo (code.take (m1 + 1)) = some L' := by
  obtain ⟨L', h1, -⟩ := hgt (m := m1 + 1) hP.2.2.1 hP.2.2.2.2.2
  exact ⟨L', by rw [← lyo_s hm hl]; exact h1, h1⟩
/-- nothing is owed under what is given -/
theorem givI (K : CK code Fs fu ((m, 0, vs, I) :: G) sh T out n) (P : PL code Fs m vs I g) (ho : (inA code m).1 = 20) : ∃ x j I', I = (0, [x], j) :: I' ∧ pvI I' = 0 ∧ (wfN x ∧ x.1 ≤ 4) := by
  obtain ⟨L2, z3, z4⟩ := K.nxt
  have key : (∃ M, kd I = 0 :: 5 :: M) ∨ kd I = [0] := by
    generalize inA code m = c at *
    obtain ⟨o', jj, r0, aa, pp, xx, yy⟩ := c
    have z : o' = 20 := ho
    subst z
    have z3 : (match (generalizing := false) kd I with | 0 :: 5 :: M => some M | [0] => some [] | _ => none) = some L2 := z3
    split at z3
    · rename_i M hM
      exact Or.inl ⟨M, hM⟩
    · rename_i hM
      exact Or.inr hM
    · cases z3
  have fin : ∀ {L : List Nat}, kd I = 0 :: L → ∃ x j I', I = (0, [x], j) :: I' ∧ kd I' = L ∧ (wfN x ∧ x.1 ≤ 4) := fun {L} e => by
    obtain ⟨x, j, I', q1, q2, q3⟩ := kdV0 e P.2.2.2.1
    refine ⟨x, j, I', q1, q2, ?_⟩
    refine K.2.2.2.1 x ?_
    rw [q1, cStk_cons (m' := m) (d' := 0)]
    exact List.mem_append_left _ List.mem_cons_self
  rcases key with ⟨M, e⟩ | e
  · obtain ⟨x, j, I', q1, q2, q3⟩ := fin e
    obtain ⟨y, I2, r1, r2, r3⟩ := kdC q2
    exact ⟨x, j, I', q1, by rw [r1]; exact pv5 (by omega), q3⟩
  · obtain ⟨x, j, I', q1, q2, q3⟩ := fin e
    refine ⟨x, j, I', q1, ?_, q3⟩
    cases I' with
    | nil => rfl
    | cons a I' => cases q2
end RET
end
-- ### 98zq.pure.lean.txt
section
/-! ===== PURE: run (120): what each and fold got ===== -/
section GOT
variable {N : Nat} {X : Nat → Option zz_C} {t0 t t1 t2 : cS} {s0 s s1 s2 : mS} {u w f p h fu m m' d d' n k b j j' i : Nat} {code : List Ins} {Fs : List Fn} {T : Ty} {out : List Int32} {G F : List Fm} {sh S0 : Nat → Option Nod} {vs : List (Option Nod)} {I J I' : List It} {q z z' pc : Int32} {x y c : Nod} {l : List Nod} {v : Int64}
theorem cStk_6 : cStk ((m, d, vs, (6, l, k) :: I) :: G) = some (nZ (Int32.ofNat (k / 2))) :: (l.map some ++ cStk ((m', d', vs, I) :: G)) := by
  rw [cStk_cons (m' := m') (d' := d')]
  rfl
theorem cStk_8 : cStk ((m, d, vs, (8, l, k) :: I) :: G) = some (nZ (Int32.ofNat (k / 2))) :: (l.map some ++ cStk ((m', d', vs, I) :: G)) := by
  rw [cStk_cons (m' := m') (d' := d')]
  rfl
theorem cStk_7 : cStk ((m, d, vs, (7, l, k) :: I) :: G) = l.map some ++ cStk ((m', d', vs, I) :: G) := by
  rw [cStk_cons (m' := m') (d' := d')]
  rfl
theorem cStk_0 : cStk ((m, d, vs, (0, [x], k) :: I) :: G) = some x :: cStk ((m', d', vs, I) :: G) := by
  rw [cStk_cons (m' := m') (d' := d')]
  rfl
theorem tStk_678 {a : It} (h : a.1 = 6 ∨ a.1 = 7 ∨ a.1 = 8) : tStk ((m, d, vs, a :: I) :: G) = tStk ((m', d', vs, I) :: G) := tStk_cons (by omega)
theorem CX.gotE (C : CX t0 t p code Fs fu S0 u w ((m, d, vs, (0, [x], j) :: (6, l, k) :: I) :: G) sh T out) (hk : (k + 1) / 2 = k / 2 + 1) (hb : k < 1000) (hl : (cStk ((m, d, vs, (0, [x], j) :: (6, l, k) :: I) :: G)).length ≤ 17600) : ∃ t', cf_162 N X pc t = some (jI t' 49 17 pc, .inl none) ∧ CX t0 t' p code Fs fu S0 u w ((m', d', vs, (6, x :: l, k + 1) :: I) :: G) sh T out := by
  have CV : CX t0 t p code Fs fu S0 u w ((m, d, vs, (0, [x], 0) :: (0, [nZ (Int32.ofNat (k / 2))], 0) :: (7, l, 0) :: I) :: G) sh T out := C.re (by rw [cStk_0 (m' := m) (d' := d), cStk_0 (m' := m) (d' := d), cStk_7 (m' := m) (d' := d), cStk_0 (m' := m) (d' := d), cStk_6 (m' := m) (d' := d)]) (by rw [tStk_0 (m' := m) (d' := d), tStk_0 (m' := m) (d' := d), tStk_678 (m' := m) (d' := d) (Or.inr (Or.inl rfl)), tStk_0 (m' := m) (d' := d), tStk_678 (m' := m) (d' := d) (Or.inl rfl)])
  have hl0 : (cStk ((m, d, vs, (7, l, 0) :: I) :: G)).length + 1 + 1 ≤ 17600 := by
    rw [cStk_0 (m' := m) (d' := d), cStk_6 (m' := m) (d' := d)] at hl
    rw [cStk_7 (m' := m) (d' := d)]
    exact hl
  obtain ⟨t2, vx, p1, p2, p3, -, p5⟩ := CV.pop (N := N) (X := X) (m' := m) (d' := d) (o := some x) (by rw [cStk_0 (m' := m) (d' := d), cStk_0 (m' := m) (d' := d), List.length_cons, List.length_cons]; omega) (by show ¬ (0 : Nat) = 3; decide) rfl
  obtain ⟨t3, vi, q1, q2, q3, -, q5⟩ := p3.pop (N := N) (X := X) (m' := m) (d' := d) (o := some (nZ (Int32.ofNat (k / 2)))) (by rw [cStk_0 (m' := m) (d' := d), List.length_cons]; omega) (by show ¬ (0 : Nat) = 3; decide) rfl
  have p2 : cN (cel t) u vx x := p2
  have q2 : cN (cel t2) u vi (nZ (Int32.ofNat (k / 2))) := q2
  obtain ⟨t4, r1, r2, -, r4⟩ := q3.push (N := N) (X := X) (m' := m) (d' := d) (it := (0, [x], 0)) (o := some x) (v := vx) (by omega) (by rw [q5, p5]; exact p2) (by show ¬ (0 : Nat) = 3; decide) rfl
  have ei := q2.z rfl
  have lo := c_lowOf (N := N) (X := X) (t := t4) (k := 0) (a := ivN (nZ (Int32.ofNat (k / 2))))
  rw [← ei] at lo
  have lo : cf_256 N X vi t4 = some (t4, .inl (some (.int (Int32.ofNat (k / 2))))) := lo
  obtain ⟨t5, w1, w2, -, -⟩ := r2.push (N := N) (X := X) (m' := m) (d' := d) (it := (0, [nZ (Int32.ofNat (k / 2 + 1))], 0)) (o := some (nZ (Int32.ofNat (k / 2 + 1)))) (v := tg (Int32.ofNat 0) (Int32.ofNat (k / 2 + 1))) (by rw [cStk_0 (m' := m) (d' := d), List.length_cons]; omega) cN_Z (by show ¬ (0 : Nat) = 3; decide) rfl
  refine ⟨t5, ?_, w2.re ?_ ?_⟩
  · have eth := c_thing (N := N) (X := X) (t := t4) (k := Int32.ofNat 0) (a := Int32.ofNat (k / 2 + 1))
    have hb2 : k / 2 < 500 := by omega
    generalize k / 2 = kh at *
    unfold cf_162 cf_162_0 cf_162_4 cf_162_9 cf_162_16 cf_162_23 cf_162_28 cf_162_31
    simp (disch := omega) only [ev_S, ev_C, ↓reduceIte, Nat.reduceEqDiff, Nat.reduceLeDiff, Nat.reduceAdd, Nat.reduceMul, Nat.reduceSub, reduceCtorEq, l32_0, l32_1, l32_2, l32_3, l32_4, l32_5, l32_6, l32_7, l32_8, l32_9, l32_10, l32_11, l32_12, l32_13, l32_14, l32_15, l32_16, l32_17, l32_18, l32_19, l32_20, l32_21, l32_22, l32_23, l32_24, l32_25, l32_26, l32_27, l32_28, l32_29, l32_33, l32_40, l32_41, l32_44, l32_45, l32_59, l32_61, l32_91, l32_93, l32_123, l32_125, p1, q1, r1, lo, eth, w1]
  · rw [cStk_6 (m' := m) (d' := d), cStk_0 (m' := m) (d' := d), cStk_0 (m' := m) (d' := d), cStk_7 (m' := m) (d' := d), hk]
    rfl
  · rw [tStk_678 (m' := m) (d' := d) (Or.inl rfl), tStk_0 (m' := m) (d' := d), tStk_0 (m' := m) (d' := d), tStk_678 (m' := m) (d' := d) (Or.inr (Or.inl rfl))]
theorem CX.gotF (C : CX t0 t p code Fs fu S0 u w ((m, d, vs, (0, [x], j) :: (8, [y], k) :: (7, [c], j') :: I) :: G) sh T out) (hk : (k + 1) / 2 = k / 2 + 1) (hb : k < 1000) (hl : (cStk ((m, d, vs, (0, [x], j) :: (8, [y], k) :: (7, [c], j') :: I) :: G)).length ≤ 17600) : ∃ t', cf_164 N X pc t = some (jI t' 49 17 pc, .inl none) ∧ CX t0 t' p code Fs fu S0 u w ((m', d', vs, (8, [y], k + 1) :: (0, [x], 0) :: I) :: G) sh T out := by
  have CV : CX t0 t p code Fs fu S0 u w ((m, d, vs, (0, [x], 0) :: (0, [nZ (Int32.ofNat (k / 2))], 0) :: (0, [y], 0) :: (0, [c], 0) :: I) :: G) sh T out := C.re (by rw [cStk_0 (m' := m) (d' := d), cStk_0 (m' := m) (d' := d), cStk_0 (m' := m) (d' := d), cStk_0 (m' := m) (d' := d), cStk_0 (m' := m) (d' := d), cStk_8 (m' := m) (d' := d), cStk_7 (m' := m) (d' := d)]; rfl) (by rw [tStk_0 (m' := m) (d' := d), tStk_0 (m' := m) (d' := d), tStk_0 (m' := m) (d' := d), tStk_0 (m' := m) (d' := d), tStk_0 (m' := m) (d' := d), tStk_678 (m' := m) (d' := d) (Or.inr (Or.inr rfl)), tStk_678 (m' := m) (d' := d) (Or.inr (Or.inl rfl))])
  have hl0 : (cStk ((m, d, vs, I) :: G)).length + 1 + 1 + 1 + 1 ≤ 17600 := by
    rw [cStk_0 (m' := m) (d' := d), cStk_8 (m' := m) (d' := d), cStk_7 (m' := m) (d' := d)] at hl
    exact hl
  obtain ⟨t2, vx, p1, p2, p3, -, p5⟩ := CV.pop (N := N) (X := X) (m' := m) (d' := d) (o := some x) (by rw [cStk_0 (m' := m) (d' := d), cStk_0 (m' := m) (d' := d), cStk_0 (m' := m) (d' := d), cStk_0 (m' := m) (d' := d), List.length_cons, List.length_cons, List.length_cons, List.length_cons]; omega) (by show ¬ (0 : Nat) = 3; decide) rfl
  obtain ⟨t3, vi, q1, q2, q3, -, q5⟩ := p3.pop (N := N) (X := X) (m' := m) (d' := d) (o := some (nZ (Int32.ofNat (k / 2)))) (by rw [cStk_0 (m' := m) (d' := d), cStk_0 (m' := m) (d' := d), cStk_0 (m' := m) (d' := d), List.length_cons, List.length_cons, List.length_cons]; omega) (by show ¬ (0 : Nat) = 3; decide) rfl
  obtain ⟨t4, vy, a1, a2, a3, -, a5⟩ := q3.pop (N := N) (X := X) (m' := m) (d' := d) (o := some y) (by rw [cStk_0 (m' := m) (d' := d), cStk_0 (m' := m) (d' := d), List.length_cons, List.length_cons]; omega) (by show ¬ (0 : Nat) = 3; decide) rfl
  obtain ⟨t5, vc, b1, b2, b3, -, b5⟩ := a3.pop (N := N) (X := X) (m' := m) (d' := d) (o := some c) (by rw [cStk_0 (m' := m) (d' := d), List.length_cons]; omega) (by show ¬ (0 : Nat) = 3; decide) rfl
  have p2 : cN (cel t) u vx x := p2
  have q2 : cN (cel t2) u vi (nZ (Int32.ofNat (k / 2))) := q2
  have a2 : cN (cel t3) u vy y := a2
  obtain ⟨t6, r1, r2, -, r4⟩ := b3.push (N := N) (X := X) (m' := m) (d' := d) (it := (0, [x], 0)) (o := some x) (v := vx) (by omega) (by rw [b5, a5, q5, p5]; exact p2) (by show ¬ (0 : Nat) = 3; decide) rfl
  obtain ⟨t7, s1, s2, -, s4⟩ := r2.push (N := N) (X := X) (m' := m) (d' := d) (it := (0, [y], 0)) (o := some y) (v := vy) (by rw [cStk_0 (m' := m) (d' := d), List.length_cons]; omega) (by rw [r4, b5, a5]; exact a2) (by show ¬ (0 : Nat) = 3; decide) rfl
  have ei := q2.z rfl
  have lo := c_lowOf (N := N) (X := X) (t := t7) (k := 0) (a := ivN (nZ (Int32.ofNat (k / 2))))
  rw [← ei] at lo
  have lo : cf_256 N X vi t7 = some (t7, .inl (some (.int (Int32.ofNat (k / 2))))) := lo
  obtain ⟨t8, w1, w2, -, -⟩ := s2.push (N := N) (X := X) (m' := m) (d' := d) (it := (0, [nZ (Int32.ofNat (k / 2 + 1))], 0)) (o := some (nZ (Int32.ofNat (k / 2 + 1)))) (v := tg (Int32.ofNat 0) (Int32.ofNat (k / 2 + 1))) (by rw [cStk_0 (m' := m) (d' := d), cStk_0 (m' := m) (d' := d), List.length_cons, List.length_cons]; omega) cN_Z (by show ¬ (0 : Nat) = 3; decide) rfl
  refine ⟨t8, ?_, w2.re ?_ ?_⟩
  · have eth := c_thing (N := N) (X := X) (t := t7) (k := Int32.ofNat 0) (a := Int32.ofNat (k / 2 + 1))
    have hb2 : k / 2 < 500 := by omega
    generalize k / 2 = kh at *
    unfold cf_164 cf_164_0 cf_164_4 cf_164_9 cf_164_15 cf_164_21 cf_164_27 cf_164_33 cf_164_40 cf_164_45 cf_164_48
    simp (disch := omega) only [ev_S, ev_C, ↓reduceIte, Nat.reduceEqDiff, Nat.reduceLeDiff, Nat.reduceAdd, Nat.reduceMul, Nat.reduceSub, reduceCtorEq, l32_0, l32_1, l32_2, l32_3, l32_4, l32_5, l32_6, l32_7, l32_8, l32_9, l32_10, l32_11, l32_12, l32_13, l32_14, l32_15, l32_16, l32_17, l32_18, l32_19, l32_20, l32_21, l32_22, l32_23, l32_24, l32_25, l32_26, l32_27, l32_28, l32_29, l32_33, l32_40, l32_41, l32_44, l32_45, l32_59, l32_61, l32_91, l32_93, l32_123, l32_125, p1, q1, a1, b1, r1, s1, lo, eth, w1]
  · rw [cStk_8 (m' := m) (d' := d), cStk_0 (m' := m) (d' := d), cStk_0 (m' := m) (d' := d), cStk_0 (m' := m) (d' := d), cStk_0 (m' := m) (d' := d), hk]
    rfl
  · rw [tStk_678 (m' := m) (d' := d) (Or.inr (Or.inr rfl)), tStk_0 (m' := m) (d' := d), tStk_0 (m' := m) (d' := d), tStk_0 (m' := m) (d' := d), tStk_0 (m' := m) (d' := d)]
/-- the uppermost way is seen otherwise -/
theorem RXm.sw {e e' : It × Nat × Nat} {W : List (It × Nat × Nat)} (R : RXm s0 s h code Fs fu f ((m, d, vs, I) :: G) sh T out) (hr : rStk ((m', d', vs, I') :: G) = rStk ((m, d, vs, I) :: G)) (hw : wStk ((m, d, vs, I) :: G) = e :: W) (hw' : wStk ((m', d', vs, I') :: G) = e' :: W) (he : ∀ v, wayP (s.2.2.1 47) f h code v e → wayP (s.2.2.1 47) f h code v e') : RXm s0 s h code Fs fu f ((m', d', vs, I') :: G) sh T out := by
  obtain ⟨r1, ⟨b1, b2, b3, b4, b5, b6, b7, b8⟩, r3⟩ := R
  rw [hw] at b3 b7
  refine ⟨r1, ⟨by rw [hr]; exact b1, rFr.hd (a := (m, d, vs, I)) rfl b2, by rw [hw']; exact ⟨he _ b3.1, b3.2⟩, b4, b5, b6, by rw [hw']; exact b7, b8⟩, by rw [hr]; exact r3⟩
theorem RXm.gotE (R : RXm s0 s h code Fs fu f ((m, d, vs, (0, [x], j) :: (6, l ++ [y], k) :: I) :: G) sh T out) (hk : (k + 1 + 1) / 2 = (k + 1) / 2) : RXm s0 s h code Fs fu f ((m', d', vs, (6, x :: (l ++ [y]), k + 1) :: I) :: G) sh T out := by
  refine R.sw ?_ ((wStk_cons (m' := m) (d' := d) (by show ¬ ((0 : Nat) = 2 ∨ (0 : Nat) = 3 ∨ (0 : Nat) = 6 ∨ (0 : Nat) = 8); decide)).trans (wStk_w (m' := m) (d' := d) (Or.inr (Or.inr (Or.inl rfl))))) (wStk_w (m' := m) (d' := d) (Or.inr (Or.inr (Or.inl rfl)))) (fun v H => ⟨fun q => (by cases q), fun q => (by cases q), fun _ => ?_⟩)
  · rw [rStk_cons (m' := m) (d' := d), rStk_cons (m := m) (d := d) (m' := m) (d' := d), rStk_cons (m := m) (d := d) (m' := m) (d' := d)]
    show (x :: (l ++ [y])).dropLast ++ _ = [x] ++ ((l ++ [y]).dropLast ++ _)
    rw [← List.cons_append, List.dropLast_concat, List.dropLast_concat]
    rfl
  · obtain ⟨a1, a2, a3, a4⟩ := H.2.2 (Or.inl rfl)
    refine ⟨a1, ?_, a3, fun rs y' e => ?_⟩
    · rw [a2]
      show Int32.ofNat ((k + 1) / 2) = Int32.ofNat ((k + 1 + 1) / 2)
      rw [hk]
    · have e : (x :: l) ++ [y] = rs ++ [y'] := e
      have := List.append_inj' e rfl
      have e2 : y = y' := by simpa using this.2
      rw [← e2]
      exact a4 l y rfl
theorem RXm.gotF (R : RXm s0 s h code Fs fu f ((m, d, vs, (0, [x], j) :: (8, [y], k) :: (7, [c], j') :: I) :: G) sh T out) (hk : (k + 1 + 1) / 2 = (k + 1) / 2) : RXm s0 s h code Fs fu f ((m', d', vs, (8, [y], k + 1) :: (0, [x], 0) :: I) :: G) sh T out := by
  refine R.sw (W := wStk ((m, d, vs, I) :: G)) ?_ ((wStk_cons (m' := m) (d' := d) (by show ¬ ((0 : Nat) = 2 ∨ (0 : Nat) = 3 ∨ (0 : Nat) = 6 ∨ (0 : Nat) = 8); decide)).trans ((wStk_w (m' := m) (d' := d) (Or.inr (Or.inr (Or.inr rfl)))).trans (by rw [wStk_cons (m := m) (d := d) (m' := m) (d' := d) (by show ¬ ((7 : Nat) = 2 ∨ (7 : Nat) = 3 ∨ (7 : Nat) = 6 ∨ (7 : Nat) = 8); decide)]))) ((wStk_w (m' := m) (d' := d) (Or.inr (Or.inr (Or.inr rfl)))).trans (by rw [wStk_cons (m := m) (d := d) (m' := m) (d' := d) (by show ¬ ((0 : Nat) = 2 ∨ (0 : Nat) = 3 ∨ (0 : Nat) = 6 ∨ (0 : Nat) = 8); decide)])) (fun v H => ⟨fun q => (by cases q), fun q => (by cases q), fun _ => ?_⟩)
  · rw [rStk_cons (m' := m) (d' := d), rStk_cons (m := m) (d := d) (m' := m) (d' := d), rStk_cons (m := m) (d := d) (m' := m) (d' := d), rStk_cons (m := m) (d := d) (m' := m) (d' := d), rStk_cons (m := m) (d := d) (m' := m) (d' := d)]
    rfl
  · obtain ⟨a1, a2, a3, a4⟩ := H.2.2 (Or.inr rfl)
    refine ⟨a1, ?_, fun q => (by cases q), fun rs y' e => a4 rs y' e⟩
    rw [a2]
    show Int32.ofNat ((k + 1) / 2) = Int32.ofNat ((k + 1 + 1) / 2)
    rw [hk]
end GOT
end
-- ### 98zr.pure.lean.txt
section
/-! ===== PURE: run (121): instructions: gives ===== -/
section GIV
variable {N : Nat} {X : Nat → Option zz_C} {t0 t t1 t2 : cS} {s0 s s1 s2 : mS} {u w f p h fu m m' d d' n k b j : Nat} {code : List Ins} {Fs : List Fn} {T : Ty} {out : List Int32} {G F : List Fm} {sh S0 : Nat → Option Nod} {vs : List (Option Nod)} {I J : List It} {q z z' pl : Int32} {x : Nod}
theorem c_143o {ac g q : Int32} {va vb : Int64} (e1 : cf_121 N X t = some (t1, .inl none)) (e2 : cf_167 N X (Int32.ofNat 1) t1 = some (t1, .inl (some (.long va)))) (e3 : cf_167 N X (Int32.ofNat 2) t1 = some (t1, .inl (some (.long vb)))) : cf_143 N X ac g q t = cf_143_19 N X ac g q va vb t1 := by
  unfold cf_143 cf_143_0 cf_143_7 cf_143_12
  simp (disch := omega) only [ev_S, ev_C, ↓reduceIte, Nat.reduceEqDiff, Nat.reduceLeDiff, Nat.reduceAdd, Nat.reduceMul, Nat.reduceSub, reduceCtorEq, l32_0, l32_1, l32_2, l32_3, l32_4, l32_5, l32_6, l32_7, l32_8, l32_9, l32_10, l32_11, l32_12, l32_13, l32_14, l32_15, l32_16, l32_17, l32_18, l32_19, l32_20, l32_21, l32_22, l32_23, l32_24, l32_25, l32_26, l32_27, l32_28, l32_29, l32_33, l32_40, l32_41, l32_44, l32_45, l32_59, l32_61, l32_91, l32_93, l32_123, l32_125, e1, e2, e3]
theorem i_20 (hN : 170000 ≤ N) (C : CS t0 t p code Fs fu S0 ((m, 0, vs, I) :: G) sh T out) (R : RSm s0 s h code Fs fu ((m, 0, vs, I) :: G) sh T out) (K : CK code Fs fu ((m, 0, vs, I) :: G) sh T out n) (ho : (inA code m).1 = 20) : GO N X t0 s0 p h code Fs fu S0 t s n := by
  obtain ⟨u, w, f, g, C1, C2, C4, R1, R2, R4, P, hm, hcx, hrl, hG, ⟨b1, b2, b6⟩, hT, hol⟩ := open0 C R K
  obtain ⟨ec, er⟩ := cI_20 (code := code) (own := posC code m) (e := h) ho
  obtain ⟨x, j, I', q1, q2, hx⟩ := givI K P ho
  subst q1
  generalize (inA code m).2.2.2.2.1 = pl at *
  obtain ⟨D1, D2⟩ := C1.fet (N := N) (X := X) (n := n) (l1 := []) rfl C4 hm ec hcx (by omega)
  obtain ⟨s1, kx, y1, y2, y3, y4, y5, y6, ⟨y7, y8, y9, y10⟩, y11, y12⟩ := R1.fet (N := N) (l1 := []) hG rfl R4 hm er hrl
  obtain ⟨t4, v, L1, L2, L3, L4⟩ := D1.leave (N := N) (X := X) (by omega) b2 hG
  obtain ⟨g1, g2, g3⟩ := y4.hd (m' := m) (d' := 0)
  have hrn : (rStk ((m, 0, vs, I') :: G)).length < 8700 := by
    rw [rStk_cons (m' := m) (d' := 0), List.length_append] at b1
    have : (iR ((0, [x], j) : It)).length = 1 := rfl
    omega
  have h30 := hT.2.2.1
  generalize hnr : (rStk ((m, 0, vs, I') :: G)).length = nr at *
  have RL := g3.leave
  have hround : ∀ t5, cf_165 N X v t4 = some (t5, .inl none) → kI t5 49 11 = Int32.ofNat G.length → ∀ Q, cf_141_L4 N X (Q + 1) 0 (Int32.ofNat n) t = cf_141_L4 N X Q 0 (Int32.ofNat (n + 1)) (jI t5 49 18 (if G = [] then Int32.ofNat 0 else Int32.ofNat 1)) := fun t5 h1 h2 Q => by
    have e := L4 t5 h1 h2
    rw [D2 Q]
    refine c_rdM (by decide) (by decide) (c_mv8.trans ?_)
    unfold cf_142_228 cf_142_232
    rw [e]
    rfl
  have href : ∀ s5, mf_291 N (s1.2.2.1 49 nr) (s1.2.2.1 50 nr) (lvS (mI s1 51 (Int32.ofNat nr)) h code G) = some (s5, none) → mf_313 N (Int32.ofNat kx) s1 = some (s5, none) := fun s5 e => by
    rw [r_op20 y3 y7]
    refine r_339 y3 g1 (by omega) ?_
    have e2 := r_leave (N := N) g3 hG rfl (by omega) e
    have h23 : (mI s1 51 (Int32.ofNat nr)).2.2.1 23 kx = Int32.ofNat 20 := y7
    rw [← e2]
    clear e e2 g3 RL
    generalize mI s1 51 (Int32.ofNat nr) = sS at *
    unfold mf_314 mf_314_0 mf_314_13 mf_314_100 mf_314_204
    simp (disch := omega) only [ev_S, ev_P, ↓reduceIte, Nat.reduceEqDiff, Nat.reduceLeDiff, Nat.reduceAdd, Nat.reduceMul, Nat.reduceSub, reduceCtorEq, l32_0, l32_1, l32_2, l32_3, l32_4, l32_5, l32_6, l32_7, l32_8, l32_9, l32_10, l32_11, l32_12, l32_13, l32_14, l32_15, l32_16, l32_17, l32_18, l32_19, l32_20, l32_21, l32_22, l32_23, l32_24, l32_25, l32_26, l32_27, l32_28, l32_29, l32_33, l32_40, l32_41, l32_44, l32_45, l32_59, l32_61, l32_91, l32_93, l32_123, l32_125, h23, l32_8000]
  have hkt := K.2.2.1
  obtain ⟨a0, G0, e0, -, -, t3⟩ := hkt
  have e0 : G = G0 := by cases e0; rfl
  have hgG : gdS (cStk G) := by
    have := K.2.2.2.1
    have : gdS (cIt ((0, [x], j) :: I') ++ (vs.reverse ++ cStk G)) := this
    exact this.app.app
  cases G with
  | nil =>
    obtain ⟨t5, s5, e1, e2, e3, e4, e5, e6⟩ := fin_ok (N := N) (X := X) L1 (by omega) RL (by omega) L2 hx K.2.2.2.2.1 g2 hol
    have hr1 := hround t5 e1 e3
    rw [if_pos rfl] at hr1
    refine Or.inr ⟨2, 2, _, s5, by omega, by omega, fun Q => ?_, fun Q x2 => ?_, e6⟩
    · rw [show Q + 2 = Q + 1 + 1 from rfl, hr1 (Q + 1)]
      exact c_off rfl (by omega)
    · rw [show Q + 2 = Q + 1 + 1 from rfl, y11 s5 (href s5 e2) e5 (Q + 1) x2]
      show mf_68_258 N (mf_68_L10 N Q) x2 s5 = _
      clear e6
      unfold mf_68_258
      simp (disch := omega) only [ev_S, ev_P, ↓reduceIte, Nat.reduceEqDiff, Nat.reduceLeDiff, Nat.reduceAdd, Nat.reduceMul, Nat.reduceSub, reduceCtorEq, l32_0, l32_1, l32_2, l32_3, l32_4, l32_5, l32_6, l32_7, l32_8, l32_9, l32_10, l32_11, l32_12, l32_13, l32_14, l32_15, l32_16, l32_17, l32_18, l32_19, l32_20, l32_21, l32_22, l32_23, l32_24, l32_25, l32_26, l32_27, l32_28, l32_29, l32_33, l32_40, l32_41, l32_44, l32_45, l32_59, l32_61, l32_91, l32_93, l32_123, l32_125, e4]
  | cons a1 G1 =>
    obtain ⟨m1, d1, vs1, I1⟩ := a1
    subst e0
    obtain ⟨hts, hin⟩ := t3 (m1, d1, vs1, I1) List.mem_cons_self
    have hP := K.1.1
    obtain ⟨g', P'⟩ := plF hP hin
    have hm1 := P'.2.1.2.2
    have hl1 : (cStk ((m1, d1, vs1, I1) :: G1)).length ≤ 17500 := by
      have b2 : (cIt ((0, [x], j) :: I') ++ (vs.reverse ++ cStk ((m1, d1, vs1, I1) :: G1))).length ≤ 17500 := b2
      rw [List.length_append, List.length_append] at b2
      omega
    have hr1 : (rStk ((m1, d1, vs1, I1) :: G1)).length ≤ 8700 := by
      have b1 : (rIt ((0, [x], j) :: I') ++ rStk ((m1, d1, vs1, I1) :: G1)).length ≤ 8700 := b1
      rw [List.length_append] at b1
      omega
    obtain ⟨t5, e1, e2, e3, e4⟩ := L1.push (N := N) (X := X) (m' := m1) (d' := d1) (it := (0, [x], 0)) (o := some x) (v := v) (by omega) L2 (by show ¬ (0 : Nat) = 3; decide) rfl
    obtain ⟨s5, f1, f2, f3, -, -⟩ := RL.push (N := N) (m' := m1) (d' := d1) (it := (0, [x], 0)) (by omega) g2 (by show ¬ ((0 : Nat) = 2 ∨ (0 : Nat) = 3 ∨ (0 : Nat) = 6 ∨ (0 : Nat) = 8); decide) rfl
    have hr2 := hround t5 e1 e2.2.1.2.2.2.2.2.2.1
    rw [if_neg (by intro q; cases q), jI_self e2.1.2.2.2.2.1] at hr2
    have p17 : kI t5 49 17 = Int32.ofNat (posC code m1 + (if (inA code m1).1 = 10 then 2 else 1)) := e3.trans L3
    have p69 : s5.1 69 = Int32.ofNat (ob0 h + posR code m1 + 1) := f3
    have hpI : pvI ((0, [x], j) :: I') = 1 := by
      have : pvI ((0, [x], j) :: I') = 1 + pvI I' := rfl
      rw [this, q2]
    obtain ⟨L, hL, ⟨o9, k1, k2⟩ | ⟨o10, hwk⟩⟩ := hts
    · -- a call
      have o9 : (inA code m1).1 = 9 := o9
      have k1 : pop0 (inA code m1).2.2.1 L = some (kd I1) := k1
      have k2 : plI I1 := k2
      have hL : lyo (code.take m1) = some L := hL
      obtain ⟨L2', n1, n2⟩ := nxF hP hm1 hL
      have n3 : L2' = 0 :: kd I1 := by
        generalize inA code m1 = c at *
        obtain ⟨o', jj, r0, aa, pp, xx, yy⟩ := c
        have z : o' = 9 := o9
        subst z
        have k1 : pop0 r0 L = some (kd I1) := k1
        have n1 : (pop0 r0 L).map (0 :: ·) = some L2' := n1
        rw [k1] at n1
        exact (Option.some.inj n1).symm
      rw [if_neg (by omega)] at p17
      have hnx := P'.2.2.2.2.2.1 (by omega)
      refine goOn (k := 1) (j := 1) (by omega) hr2 (fun Q x2 => y11 s5 (href s5 f1) f2.1.2.2.1.1 Q x2) (e2.at (m' := m1 + 1) (d' := 0)) C2 ?_ (f2.re (a' := (m1 + 1, 0, vs1, (0, [x], 0) :: I1)) rfl rfl rfl) R2 ?_ (K.ret ⟨0 :: kd I1, ?_, Or.inl ⟨rfl, rfl, ?_⟩⟩ ⟨g', P'.1, ?_, ?_, P'.2.2.1.1, okV, P'.2.2.2.1⟩ ?_ ?_ ?_)
      · rw [p17, posC_s hm1, show clen (inA code m1) = 1 by unfold clen; rw [o9]; rfl]
      · rw [p69, posR_s hm1, show rlen (inA code m1) = 1 by unfold rlen; rw [o9]; rfl]
        rfl
      · rw [← n3]; exact n2
      · intro y hy
        rcases List.mem_cons.mp hy with e | e
        · rw [e]; exact Nat.zero_le 5
        · exact k2 y e
      · exact Nat.le_succ_of_le P'.2.1.1
      · exact hnx
      · rw [cStk_0 (m' := m1) (d' := d1)]
        exact gd_c (fun y hy => by cases hy; exact hx) hgG
      · rw [hpI, crL_c]
        show 1 + (0 + crL I1) + 1 + pvI I1 ≤ 4 + _ + crL I1 + (1 + pvI I1)
        omega
      · rw [n5I_c]
        show 0 + n5I I1 ≤ _
        omega
    · have o10 : (inA code m1).1 = 10 := o10
      rw [if_pos o10] at p17
      obtain ⟨ec1, -⟩ := cI_10 (code := code) (own := posC code m1) (e := h) o10
      have hlt5 : (cStk ((m1, d1, vs1, (0, [x], 0) :: I1) :: G1)).length ≤ 17600 := by
        rw [cStk_0 (m' := m1) (d' := d1), List.length_cons]
        omega
      rcases hwk with ⟨hr0, a, Iq, ea, ha, ⟨hk1, hk2⟩, hpl⟩ | ⟨hr0, a, yy, Iq, ea, ha, hy, ⟨hk1, hk2⟩, hpl⟩
      · -- each
        have ea : I1 = a :: Iq := ea
        subst ea
        have hr0 : (inA code m1).2.2.1 = 1 := hr0
        obtain ⟨rs, y, w1, w2, w3, w4⟩ := P'.2.2.2.1.1.2.2.2.2.1 ha
        obtain ⟨a1, al, k0⟩ := a
        have ha : a1 = 6 := ha
        have w1 : al = rs ++ [y] := w1
        subst ha w1
        have hk2 : k0 % 2 = 1 := hk2
        have w2 : rs.length = k0 / 2 := w2
        have w4 : (k0 + 1) / 2 ≤ szN y := w4
        have wy : wfN y := by
          refine (hgG y ?_).1
          rw [cStk_6 (m' := m1) (d' := d1)]
          refine List.mem_cons_of_mem _ (List.mem_append_left _ (List.mem_map.mpr ⟨y, List.mem_append_right _ List.mem_cons_self, rfl⟩))
        have s64 := wf64 wy
        rw [if_pos hr0, if_pos hr0] at ec1
        generalize (inA code m1).2.2.2.2.1 = pl1 at *
        obtain ⟨E1, E2⟩ := e2.fet (N := N) (X := X) (n := n + 1) (l1 := [((25 : Int32), (0 : Int32), pl1), ((13 : Int32), fa (inA code m1).2.1, pl1)]) (dd := 2) rfl p17 hm1 ec1 hcx (by omega)
        obtain ⟨F1, F2⟩ := E1.forget (N := N) (X := X)
        obtain ⟨va, i1, -⟩ := F2.top1 (N := N) (X := X) (cStk_0 (m' := m1) (d' := d1))
        obtain ⟨vb, i2⟩ := F2.peekA (N := N) (X := X) (by omega)
        obtain ⟨t6, c1, c2⟩ := F2.gotE (N := N) (X := X) (pc := Int32.ofNat (posC code m1 + 1)) (m' := m1) (d' := 1) (by omega) (by omega) hlt5
        have R6 := f2.gotE (m' := m1) (d' := 1) (by omega)
        refine goOn (k := 2) (j := 1) (by omega) (fun Q => ?_) (fun Q x2 => y11 s5 (href s5 f1) f2.1.2.2.1.1 Q x2) (c2.pc (z := Int32.ofNat (posC code m1 + 1)) (Or.inl rfl)) C2 rfl R6 R2 p69 (K.ret ⟨L, hL, Or.inr ⟨rfl, o10, Or.inl ⟨hr0, _, Iq, rfl, rfl, ⟨hk1, ?_⟩, hpl⟩⟩⟩ ⟨g', P'.1, P'.2.1.1, P'.2.1.2.1, P'.2.2.1.1, ?_, P'.2.2.2.1.2⟩ ?_ ?_ ?_)
        · rw [show Q + 2 = Q + 1 + 1 from rfl, hr2 (Q + 1), E2 Q]
          refine c_rdW (by decide) (by decide) (by decide) ((c_143o F1 i1 i2).trans (c_wk14.trans ?_))
          clear E1 E2 F1 F2 i1 i2 c2 e2 hr2
          unfold cf_143_283 cf_143_288 cf_143_296
          rw [c1]
          rfl
        · show (k0 + 1) % 2 = 0
          omega
        · refine ⟨by show (6 : Nat) ≤ 8; omega, fun q => (by rcases q with q | q <;> cases q), fun q => (by cases q), fun q => (by cases q), fun _ => ⟨x :: rs, y, rfl, ?_, w3, ?_⟩, fun q => (by cases q)⟩
          · show rs.length + 1 = (k0 + 1) / 2
            omega
          · show (k0 + 1 + 1) / 2 ≤ szN y
            omega
        · rw [cStk_6 (m' := m1) (d' := d1)]
          rw [cStk_6 (m' := m1) (d' := d1)] at hgG
          exact gd_c gd_Z (gd_c (fun y hy => by cases hy; exact hx) (fun y hy => hgG y (List.mem_cons_of_mem _ hy)))
        · rw [hpI, crL_c (I := Iq), crL_c (I := Iq)]
          show 2 + (3 + crL Iq) + 1 + (k0 / 2 + pvI Iq) ≤ 4 + _ + (3 + crL Iq) + ((k0 + 1) / 2 + pvI Iq)
          omega
        · rw [n5I_c (I := Iq), n5I_c (I := Iq)]
          show 0 + n5I Iq ≤ _ + (0 + n5I Iq)
          omega
      · -- fold
        have ea : I1 = a :: yy :: Iq := ea
        subst ea
        have hr0 : (inA code m1).2.2.1 = 2 := hr0
        obtain ⟨y, w1, w3, w4⟩ := P'.2.2.2.1.1.2.2.2.2.2 ha
        obtain ⟨c, w5⟩ := P'.2.2.2.1.2.1.2.1 (Or.inr hy)
        obtain ⟨a1, al, k0⟩ := a
        obtain ⟨y1', yl, j'⟩ := yy
        have ha : a1 = 8 := ha
        have hy : y1' = 7 := hy
        have w1 : al = [y] := w1
        have w5 : yl = [c] := w5
        subst ha w1 hy w5
        have hk2 : k0 % 2 = 1 := hk2
        have w4 : (k0 + 1) / 2 ≤ szN y := w4
        have wy : wfN y := by
          refine (hgG y ?_).1
          rw [cStk_8 (m' := m1) (d' := d1)]
          exact List.mem_cons_of_mem _ List.mem_cons_self
        have s64 := wf64 wy
        have n1 : ¬ (inA code m1).2.2.1 = 1 := by omega
        rw [if_neg n1, if_neg n1] at ec1
        generalize (inA code m1).2.2.2.2.1 = pl1 at *
        obtain ⟨E1, E2⟩ := e2.fet (N := N) (X := X) (n := n + 1) (l1 := [((25 : Int32), (0 : Int32), pl1), ((15 : Int32), fa (inA code m1).2.1, pl1)]) (dd := 2) rfl p17 hm1 ec1 hcx (by omega)
        obtain ⟨F1, F2⟩ := E1.forget (N := N) (X := X)
        obtain ⟨va, i1, -⟩ := F2.top1 (N := N) (X := X) (cStk_0 (m' := m1) (d' := d1))
        obtain ⟨vb, i2⟩ := F2.peekA (N := N) (X := X) (by omega)
        obtain ⟨t6, c1, c2⟩ := F2.gotF (N := N) (X := X) (pc := Int32.ofNat (posC code m1 + 1)) (m' := m1) (d' := 1) (by omega) (by omega) hlt5
        have R6 := f2.gotF (m' := m1) (d' := 1) (by omega)
        refine goOn (k := 2) (j := 1) (by omega) (fun Q => ?_) (fun Q x2 => y11 s5 (href s5 f1) f2.1.2.2.1.1 Q x2) (c2.pc (z := Int32.ofNat (posC code m1 + 1)) (Or.inl rfl)) C2 rfl R6 R2 p69 (K.ret ⟨L, hL, Or.inr ⟨rfl, o10, Or.inr ⟨hr0, _, _, Iq, rfl, rfl, rfl, ⟨hk1, ?_⟩, hpl⟩⟩⟩ ⟨g', P'.1, P'.2.1.1, P'.2.1.2.1, P'.2.2.1.1, ?_, okV, P'.2.2.2.1.2.2⟩ ?_ ?_ ?_)
        · rw [show Q + 2 = Q + 1 + 1 from rfl, hr2 (Q + 1), E2 Q]
          refine c_rdW (by decide) (by decide) (by decide) ((c_143o F1 i1 i2).trans (c_wk16.trans ?_))
          clear E1 E2 F1 F2 i1 i2 c2 e2 hr2
          unfold cf_143_291 cf_143_296
          rw [c1]
          rfl
        · show (k0 + 1) % 2 = 0
          omega
        · refine ⟨by show (8 : Nat) ≤ 8; omega, fun q => (by rcases q with q | q <;> cases q), fun q => (by cases q), fun q => (by cases q), fun q => (by cases q), fun _ => ⟨y, rfl, w3, ?_⟩⟩
          show (k0 + 1 + 1) / 2 ≤ szN y
          omega
        · rw [cStk_8 (m' := m1) (d' := d1), cStk_0 (m' := m1) (d' := d1)]
          rw [cStk_8 (m' := m1) (d' := d1), cStk_7 (m' := m1) (d' := d1)] at hgG
          refine gd_c gd_Z (gd_c (fun z hz => hgG z (by rw [← hz]; exact List.mem_cons_of_mem _ List.mem_cons_self)) (gd_c (fun y hy => by cases hy; exact hx) (fun y hy => hgG y ?_)))
          exact List.mem_cons_of_mem _ (List.mem_cons_of_mem _ (List.mem_cons_of_mem _ hy))
        · rw [hpI, crL_c (I := (0, [x], 0) :: Iq), crL_c (I := Iq), crL_c (I := (7, [c], j') :: Iq), crL_c (I := Iq)]
          show 2 + (3 + (0 + crL Iq)) + 1 + (1 + pvI Iq) ≤ 4 + _ + (3 + (0 + crL Iq)) + (1 + pvI Iq)
          omega
        · rw [n5I_c (I := (0, [x], 0) :: Iq), n5I_c (I := Iq), n5I_c (I := (7, [c], j') :: Iq), n5I_c (I := Iq)]
          show 0 + (0 + n5I Iq) ≤ _ + (0 + (0 + n5I Iq))
          omega
end GIV
end
-- ### 98zs.pure.lean.txt
section
/-! ===== PURE: run (122): instructions: each and fold begin ===== -/
section WLK
variable {N : Nat} {X : Nat → Option zz_C} {t0 t t1 t2 : cS} {s0 s s1 s2 : mS} {u w f p h fu m m' d d' n k b j e : Nat} {code : List Ins} {Fs : List Fn} {T : Ty} {out : List Int32} {G F : List Fm} {sh S0 : Nat → Option Nod} {vs : List (Option Nod)} {I J Ir : List It} {q z z' pl : Int32} {x y : Nod} {g : Fn}
/-- over what it goes -/
theorem wlkI (K : CK code Fs fu ((m, 0, vs, I) :: G) sh T out n) (P : PL code Fs m vs I g) (ho : (inA code m).1 = 10) : ∃ y j Ir e, I = (0, [y], j) :: Ir ∧ (e = 6 ∨ e = 8) ∧ (inA code m).2.2.1 = (if e = 6 then 1 else 2) ∧ wlk (inA code m) (kd I) 0 ((e, [y], 0) :: Ir) ∧ okIs code g.2.2.2.2.1 g.2.2.2.2.2 Ir ∧ (wfN y ∧ y.1 ≤ 4) := by
  obtain ⟨hl, hp⟩ := K.ly0
  obtain ⟨L2, z3, z4⟩ := K.nxt
  have hr := P.2.2.2.2.1.2.2.2.1 ho
  obtain ⟨M, hM⟩ : ∃ M, pop0 (inA code m).2.2.1 (kd I) = some M := by
    generalize inA code m = c at *
    obtain ⟨o', jj, r0, aa, pp, xx, yy⟩ := c
    have z : o' = 10 := ho
    subst z
    have z3 : (if r0 ≤ 2 then (pop0 r0 (kd I)).map (0 :: ·) else none) = some L2 := z3
    show ∃ M, pop0 r0 (kd I) = some M
    split at z3
    · cases hM : pop0 r0 (kd I) with
      | none => rw [hM] at z3; cases z3
      | some M => exact ⟨M, rfl⟩
    · cases z3
  have p1 : ∀ {k : Nat} {L M : List Nat}, pop0 (k + 1) L = some M → ∃ L', L = 0 :: L' ∧ pop0 k L' = some M := fun {k L M} q => by
    cases L with
    | nil => cases q
    | cons a L =>
      cases a with
      | zero => exact ⟨L, rfl, q⟩
      | succ a => cases q
  have hgx : ∀ {y : Nod} {j : Nat} {Ir : List It}, I = (0, [y], j) :: Ir → wfN y ∧ y.1 ≤ 4 := fun {y j Ir} e => by
    refine K.2.2.2.1 y ?_
    rw [e, cStk_0 (m' := m) (d' := 0)]
    exact List.mem_cons_self
  rcases hr with hr | hr
  · rw [hr] at hM
    obtain ⟨L', e1, e2⟩ := p1 hM
    cases e2
    obtain ⟨y, j, Ir, q1, q2, q3⟩ := kdV0 e1 P.2.2.2.1
    have hpl : plI Ir := fun a ha => hp a (by rw [q1]; exact List.mem_cons_of_mem _ ha)
    exact ⟨y, j, Ir, 6, q1, Or.inl rfl, hr, ⟨ho, Or.inl ⟨hr, _, Ir, rfl, rfl, ⟨by rw [q2]; exact hM, rfl⟩, hpl⟩⟩, q3, hgx q1⟩
  · rw [hr] at hM
    obtain ⟨L', e1, e2⟩ := p1 hM
    obtain ⟨L'', e3, e4⟩ := p1 e2
    cases e4
    obtain ⟨y, j, Ir, q1, q2, q3⟩ := kdV0 e1 P.2.2.2.1
    rw [e3] at q2
    obtain ⟨c, j2, Iq, r1, r2, r3⟩ := kdV0 q2 q3
    have hpl : plI Iq := fun a ha => hp a (by rw [q1, r1]; exact List.mem_cons_of_mem _ (List.mem_cons_of_mem _ ha))
    exact ⟨y, j, Ir, 8, q1, Or.inr rfl, hr, ⟨ho, Or.inr ⟨hr, _, (0, [c], j2), Iq, by rw [r1], rfl, rfl, ⟨by rw [r2]; exact hM, rfl⟩, hpl⟩⟩, q3, hgx q1⟩
theorem i_10 (hN : 170000 ≤ N) (C : CS t0 t p code Fs fu S0 ((m, 0, vs, I) :: G) sh T out) (R : RSm s0 s h code Fs fu ((m, 0, vs, I) :: G) sh T out) (K : CK code Fs fu ((m, 0, vs, I) :: G) sh T out n) (ho : (inA code m).1 = 10) : GO N X t0 s0 p h code Fs fu S0 t s n := by
  obtain ⟨u, w, f, g, C1, C2, C4, R1, R2, R4, P, hm, hcx, hrl, hG, ⟨b1, b2, b6⟩, hT, hol⟩ := open0 C R K
  obtain ⟨ec, er⟩ := cI_10 (code := code) (own := posC code m) (e := h) ho
  obtain ⟨y, j, Ir, e, q1, he, hr, hwk, hok, hy⟩ := wlkI K P ho
  obtain ⟨hl, hp⟩ := K.ly0
  have hbd := K.bd
  have hpb := P.2.1
  subst q1
  rw [hr] at er
  generalize (inA code m).2.2.2.2.1 = pl at *
  obtain ⟨D1, D2⟩ := C1.fet (N := N) (X := X) (n := n) (l1 := []) (dd := 0) rfl C4 hm ec hcx (by omega)
  obtain ⟨s1, kx, y1, y2, y3, y4, y5, y6, ⟨y7, y8, y9, y10⟩, y11, y12⟩ := R1.fet (N := N) (l1 := []) hG rfl R4 hm er hrl
  have hop : mf_313 N (Int32.ofNat kx) s1 = mf_313_185 N (Int32.ofNat kx) s1 := r_op10 y3 y7
  by_cases hs : T.1 < fu
  · have hst := c_step (N := N) (X := X) (t := jI t 49 17 (Int32.ofNat (posC code m + 0 + 1))) (q := pl) D1.1.2.1.1 D1.1.2.1.2.1 hT.1 hs
    have hT1 : okTy fu (T.1 + 1, T.2) := ⟨hT.1, hs, hT.2.2⟩
    have h30 := hT.2.2.1
    have hstep := r_step (N := N) y4 hT.1 hs
    obtain ⟨F1, F2⟩ := (D1.st).forget (N := N) (X := X)
    obtain ⟨va, i1, i2⟩ := F2.top1 (N := N) (X := X) (cStk_0 (m' := m) (d' := 0))
    obtain ⟨vb, i3⟩ := F2.peekA (N := N) (X := X) (by omega)
    have i2 : cN _ u va y := i2
    have kb := c_kn (N := N) (X := X) i2
    have hk3 := kn_le (x := y)
    have Rst := y4.st
    have h66 : (mI s1 60 (Int32.ofNat (T.1 + 1))).1 66 = Int32.ofNat 0 := Rst.1.2.2.1.1
    obtain ⟨g1, g2, g3⟩ := Rst.hd (m' := m) (d' := 0)
    have hrn : (rStk ((m, 0, vs, Ir) :: G)).length < 8700 := by
      rw [rStk_cons (m' := m) (d' := 0), List.length_append] at b1
      have : (iR ((0, [y], j) : It)).length = 1 := rfl
      omega
    generalize hnr : (rStk ((m, 0, vs, Ir) :: G)).length = nr at *
    have sb : Int32.ofNat (nr + 1) - Int32.ofNat 1 = Int32.ofNat nr := by rw [← Int32.ofNat_sub _ _ (by omega)]; rfl
    have y7' : (mI s1 60 (Int32.ofNat (T.1 + 1))).2.2.1 23 kx = Int32.ofNat 10 := y7
    have y8' : (mI s1 60 (Int32.ofNat (T.1 + 1))).2.2.1 24 kx = Int32.ofNat (27 + if e = 6 then 1 else 2) := y8
    have y70' : (mI s1 60 (Int32.ofNat (T.1 + 1))).1 70 = pl := y6
    have hround : ∀ t3, cf_160 N X pl (jI (jI (jI t 49 17 (Int32.ofNat (posC code m + 0 + 1))) 48 2 (Int32.ofNat (T.1 + 1))) 42 3 (Int32.ofNat 0)) = some (t3, .inl none) → ∀ Q, cf_141_L4 N X (Q + 1) 0 (Int32.ofNat n) t = cf_141_L4 N X Q 0 (Int32.ofNat (n + 1)) t3 := fun t3 ht Q => by
      rw [D2 Q]
      refine c_rdSW (by decide) (by decide) (by decide) hst ((c_143o F1 i1 i3).trans (c_wk25.trans ?_))
      unfold cf_143_257 cf_143_262 cf_143_296
      rw [ht]
      rfl
    have href : ∀ s3, mf_316_130 N (Int32.ofNat kx) (mI s1 60 (Int32.ofNat (T.1 + 1))) = some (s3, none) → mf_313 N (Int32.ofNat kx) s1 = some (s3, none) := fun s3 hs3 => by
      rw [hop]
      have hw : mf_316 N (Int32.ofNat kx) (mI s1 60 (Int32.ofNat (T.1 + 1))) = some (s3, none) := by
        rw [r_wk10 y3 y7']
        exact hs3
      clear Rst g1 g2 g3 y8' y70' y7' hs3
      generalize mI s1 60 (Int32.ofNat (T.1 + 1)) = sS at *
      unfold mf_313_185 mf_313_189 mf_313_196 mf_313_201
      simp (disch := omega) only [ev_S, ev_P, ↓reduceIte, Nat.reduceEqDiff, Nat.reduceLeDiff, Nat.reduceAdd, Nat.reduceMul, Nat.reduceSub, reduceCtorEq, l32_0, l32_1, l32_2, l32_3, l32_4, l32_5, l32_6, l32_7, l32_8, l32_9, l32_10, l32_11, l32_12, l32_13, l32_14, l32_15, l32_16, l32_17, l32_18, l32_19, l32_20, l32_21, l32_22, l32_23, l32_24, l32_25, l32_26, l32_27, l32_28, l32_29, l32_33, l32_40, l32_41, l32_44, l32_45, l32_59, l32_61, l32_91, l32_93, l32_123, l32_125, hstep, h66, hw]
    by_cases c0 : kn y = 0
    · -- nothing to go over
      obtain ⟨j1, -⟩ := g2.iv c0
      obtain ⟨x1, x2, x3⟩ := Rst.trb (N := N) (k := 3) (q := pl)
      refine trob0 (kq := 3) (k0 := 1) (ra := Int32.ofNat 0) (by omega) (by omega) (by omega) K hT1 ⟨by show T.1 ≤ T.1 + 1; omega, Nat.le_refl _⟩ F2 (Nat.le_trans C2 (Nat.le_add_right _ _)) x2 x3 ⟨R2.1, Nat.le_trans R2.2 (Nat.le_add_right _ _)⟩ rfl (fun t3 ht => hround t3 ?_) (y12 _ 3 (href _ ?_) rfl (by omega)) b6
      · rw [c0] at kb
        clear D1 D2 hst hround F1 F2 i2 i3
        generalize jI (jI (jI t 49 17 (Int32.ofNat (posC code m + 0 + 1))) 48 2 (Int32.ofNat (T.1 + 1))) 42 3 (Int32.ofNat 0) = tq at *
        unfold cf_160 cf_160_0 cf_160_5 cf_160_8 cf_160_11 cf_160_18 cf_160_30
        simp (disch := omega) only [ev_S, ev_C, ↓reduceIte, Nat.reduceEqDiff, Nat.reduceLeDiff, Nat.reduceAdd, Nat.reduceMul, Nat.reduceSub, reduceCtorEq, l32_0, l32_1, l32_2, l32_3, l32_4, l32_5, l32_6, l32_7, l32_8, l32_9, l32_10, l32_11, l32_12, l32_13, l32_14, l32_15, l32_16, l32_17, l32_18, l32_19, l32_20, l32_21, l32_22, l32_23, l32_24, l32_25, l32_26, l32_27, l32_28, l32_29, l32_33, l32_40, l32_41, l32_44, l32_45, l32_59, l32_61, l32_91, l32_93, l32_123, l32_125, i1, kb, ht]
      · clear href x2 x3 Rst g2 g3 hstep
        generalize mI s1 60 (Int32.ofNat (T.1 + 1)) = sS at *
        unfold mf_316_130 mf_316_144 mf_316_153
        simp (disch := omega) only [ev_S, ev_P, ↓reduceIte, Nat.reduceEqDiff, Nat.reduceLeDiff, Nat.reduceAdd, Nat.reduceMul, Nat.reduceSub, reduceCtorEq, l32_0, l32_1, l32_2, l32_3, l32_4, l32_5, l32_6, l32_7, l32_8, l32_9, l32_10, l32_11, l32_12, l32_13, l32_14, l32_15, l32_16, l32_17, l32_18, l32_19, l32_20, l32_21, l32_22, l32_23, l32_24, l32_25, l32_26, l32_27, l32_28, l32_29, l32_33, l32_40, l32_41, l32_44, l32_45, l32_59, l32_61, l32_91, l32_93, l32_123, l32_125, g1, sb, j1, y70', x1]
    · -- it begins
      obtain ⟨j1, a0, j2, j3⟩ := g2.th c0
      obtain ⟨t3, a1, a2, a3, a4⟩ := F2.push (N := N) (X := X) (m' := m) (d' := 0) (it := (0, [nZ 0], 0)) (o := some (nZ 0)) (v := tg (Int32.ofNat 0) (Int32.ofNat 0)) (by omega) cN_Z (by show ¬ (0 : Nat) = 3; decide) rfl
      have CY : CX t0 t3 p code Fs fu S0 u 0 ((m, 1, vs, (e, [y], 0) :: Ir) :: G) sh (T.1 + 1, T.2) out := by
        refine a2.re ?_ ?_
        · rw [cStk_00 (m' := m) (d' := 0)]
          rcases he with he | he
          · rw [he, cStk_6 (m' := m) (d' := 0)]
            rfl
          · rw [he, cStk_8 (m' := m) (d' := 0)]
            rfl
        · rw [tStk_678 (m' := m) (d' := 0) (by show e = 6 ∨ e = 7 ∨ e = 8; omega), tStk_0 (m' := m) (d' := 0), tStk_0 (m' := m) (d' := 0)]
      have hwl : (wStk ((m, 0, vs, Ir) :: G)).length ≤ 110 := by
        have := hbd.2.2.1
        rw [wStk_cons (m' := m) (d' := 0) (by show ¬ ((0 : Nat) = 2 ∨ (0 : Nat) = 3 ∨ (0 : Nat) = 6 ∨ (0 : Nat) = 8); decide)] at this
        exact this
      have h79 := g3.2.1.2.2.2.2.2.2.1
      have hsz : mf_77 N (Int32.ofNat a0) (mI (mI s1 60 (Int32.ofNat (T.1 + 1))) 51 (Int32.ofNat nr)) = some (mI (mI s1 60 (Int32.ofNat (T.1 + 1))) 51 (Int32.ofNat nr), some (.int (Int32.ofNat (szN y)))) := r_size (N := N) (LayN_iff.mp j3).2 (Nat.le_trans (LayN.lt j3).1 (by omega))
      have hw := r_way (N := N) (x1 := Int32.ofNat (if e = 6 then 3 else 4)) (x2 := Int32.ofNat a0) (x3 := Int32.ofNat (szN y)) (x4 := Int32.ofNat nr) h79 (by omega)
      have hway : wayP ((mI (mI s1 60 (Int32.ofNat (T.1 + 1))) 51 (Int32.ofNat nr)).2.2.1 47) f h code (Int32.ofNat (if e = 6 then 3 else 4), Int32.ofNat a0, Int32.ofNat 0, Int32.ofNat (szN y), Int32.ofNat nr, (mI (mI s1 60 (Int32.ofNat (T.1 + 1))) 51 (Int32.ofNat nr)).1 73) ((e, [y], 0), (rStk ((m, 0, vs, Ir) :: G)).length, G.length + 1) := by
        refine ⟨fun q => ?_, fun q => ?_, fun _ => ⟨rfl, by show Int32.ofNat 0 = Int32.ofNat ((0 + 1) / 2); rfl, fun _ => by rw [hnr], fun rs y' hy' => ⟨a0, rfl, ?_, ?_⟩⟩⟩
        · have q : e = 2 := q
          omega
        · have q : e = 3 := q
          omega
        · have hy' : [] ++ [y] = rs ++ [y'] := hy'
          have := List.append_inj' hy' rfl
          have e2 : y = y' := by simpa using this.2
          rw [← e2]
          exact j3
        · have hy' : [] ++ [y] = rs ++ [y'] := hy'
          have := List.append_inj' hy' rfl
          have e2 : y = y' := by simpa using this.2
          rw [← e2]
      have RY := g3.way (m' := m) (d' := 1) (it := (e, [y], 0)) (by show e = 2 ∨ e = 3 ∨ e = 6 ∨ e = 8; omega) (by rcases he with he | he <;> rw [he] <;> rfl) hway
      refine goOn (k := 1) (j := 1) (by omega) (hround t3 ?_) (fun Q x2 => y11 _ (href _ ?_) RY.1.2.2.1.1 Q x2) CY C2 ?_ RY R2 ?_ (K.nx hT1 ⟨_, hl, Or.inr ⟨rfl, hwk⟩⟩ ⟨g, P.1, hpb.1, hpb.2.1, P.2.2.1.1, ?_, hok⟩ ?_ K.2.2.2.2.1 ?_ ?_)
      · have eth := c_thing (N := N) (X := X) (t := jI (jI (jI t 49 17 (Int32.ofNat (posC code m + 0 + 1))) 48 2 (Int32.ofNat (T.1 + 1))) 42 3 (Int32.ofNat 0)) (k := Int32.ofNat 0) (a := Int32.ofNat 0)
        clear D1 D2 hst hround F1 F2 i2 i3 CY a2 a3 a4 g2 j1 hway RY
        generalize jI (jI (jI t 49 17 (Int32.ofNat (posC code m + 0 + 1))) 48 2 (Int32.ofNat (T.1 + 1))) 42 3 (Int32.ofNat 0) = tq at *
        generalize kn y = kn' at *
        unfold cf_160 cf_160_0 cf_160_5 cf_160_8 cf_160_21 cf_160_27 cf_160_30
        simp (disch := omega) only [ev_S, ev_C, ↓reduceIte, Nat.reduceEqDiff, Nat.reduceLeDiff, Nat.reduceAdd, Nat.reduceMul, Nat.reduceSub, reduceCtorEq, l32_0, l32_1, l32_2, l32_3, l32_4, l32_5, l32_6, l32_7, l32_8, l32_9, l32_10, l32_11, l32_12, l32_13, l32_14, l32_15, l32_16, l32_17, l32_18, l32_19, l32_20, l32_21, l32_22, l32_23, l32_24, l32_25, l32_26, l32_27, l32_28, l32_29, l32_33, l32_40, l32_41, l32_44, l32_45, l32_59, l32_61, l32_91, l32_93, l32_123, l32_125, i1, kb, c0, eth, a1]
      · have h51' : (mI (mI s1 60 (Int32.ofNat (T.1 + 1))) 51 (Int32.ofNat nr)).1 51 = Int32.ofNat nr := rfl
        have j2' : (mI (mI s1 60 (Int32.ofNat (T.1 + 1))) 51 (Int32.ofNat nr)).2.2.1 50 nr = Int32.ofNat a0 := j2
        clear hway RY g3 g2 Rst h66 y70' y7' j3 hstep href CY
        generalize hsS2 : mI (mI s1 60 (Int32.ofNat (T.1 + 1))) 51 (Int32.ofNat nr) = sS2 at *
        generalize mI s1 60 (Int32.ofNat (T.1 + 1)) = sS at *
        have hsS2 : mI sS 51 (Int32.ofNat nr) = sS2 := hsS2
        generalize szN y = sz at *
        generalize (wStk ((m, 0, vs, Ir) :: G)).length = nw at *
        rcases he with he | he
        · subst he
          have y8' : sS.2.2.1 24 kx = Int32.ofNat 28 := y8'
          have hw : mf_311 N (Int32.ofNat 3) _ _ _ _ = _ := hw
          unfold mf_316_130 mf_316_154 mf_316_176 mf_316_181 mf_316_203 mf_316_210
          simp (disch := omega) only [ev_S, ev_P, ↓reduceIte, Nat.reduceEqDiff, Nat.reduceLeDiff, Nat.reduceAdd, Nat.reduceMul, Nat.reduceSub, reduceCtorEq, l32_0, l32_1, l32_2, l32_3, l32_4, l32_5, l32_6, l32_7, l32_8, l32_9, l32_10, l32_11, l32_12, l32_13, l32_14, l32_15, l32_16, l32_17, l32_18, l32_19, l32_20, l32_21, l32_22, l32_23, l32_24, l32_25, l32_26, l32_27, l32_28, l32_29, l32_33, l32_40, l32_41, l32_44, l32_45, l32_59, l32_61, l32_91, l32_93, l32_123, l32_125, g1, sb, j1, y8', hsS2, h51', j2', hsz, hw, l32_8000]
        · subst he
          have y8' : sS.2.2.1 24 kx = Int32.ofNat 29 := y8'
          have hw : mf_311 N (Int32.ofNat 4) _ _ _ _ = _ := hw
          unfold mf_316_130 mf_316_154 mf_316_180 mf_316_181 mf_316_203 mf_316_210
          simp (disch := omega) only [ev_S, ev_P, ↓reduceIte, Nat.reduceEqDiff, Nat.reduceLeDiff, Nat.reduceAdd, Nat.reduceMul, Nat.reduceSub, reduceCtorEq, l32_0, l32_1, l32_2, l32_3, l32_4, l32_5, l32_6, l32_7, l32_8, l32_9, l32_10, l32_11, l32_12, l32_13, l32_14, l32_15, l32_16, l32_17, l32_18, l32_19, l32_20, l32_21, l32_22, l32_23, l32_24, l32_25, l32_26, l32_27, l32_28, l32_29, l32_33, l32_40, l32_41, l32_44, l32_45, l32_59, l32_61, l32_91, l32_93, l32_123, l32_125, g1, sb, j1, y8', hsS2, h51', j2', hsz, hw, l32_8000]
      · rw [a3]
        rfl
      · show s1.1 69 = _
        rw [y5, y1]
        rfl
      · refine ⟨by show e ≤ 8; omega, fun q => ?_, fun q => ?_, fun q => ?_, fun q => ⟨[], y, rfl, by show 0 = 0 / 2; rfl, c0, by show (0 + 1) / 2 ≤ szN y; omega⟩, fun q => ⟨y, rfl, c0, by show (0 + 1) / 2 ≤ szN y; omega⟩⟩
        · have q : e = 0 ∨ e = 7 := q
          omega
        · have q : e = 2 := q
          omega
        · have q : e = 3 := q
          omega
      · have hg0 := K.2.2.2.1
        rw [cStk_0 (m' := m) (d' := 0)] at hg0
        rcases he with he | he
        · rw [he, cStk_6 (m' := m) (d' := 0)]
          exact gd_c gd_Z hg0
        · rw [he, cStk_8 (m' := m) (d' := 0)]
          exact gd_c gd_Z hg0
      · rw [crL_c, crL_c]
        have f1 : crI (e, [y], 0) = 3 := by rcases he with he | he <;> rw [he] <;> rfl
        have f2 : pvI ((e, [y], 0) :: Ir) = pvI Ir := by
          rcases he with he | he <;> rw [he]
          · show 0 / 2 + pvI Ir = _
            omega
          · rfl
        rw [f1, f2]
        show 1 + (3 + crL Ir) + 20 * T.1 + 60 * T.2.1 + (1 + pvI Ir) ≤ 0 + crL Ir + 20 * (T.1 + 1) + 60 * T.2.1 + pvI Ir
        omega
      · rw [n5I_c, n5I_c]
        have f1 : (if (((e, [y], 0) : It)).1 = 5 then 1 else 0) = 0 := by
          rw [if_neg]
          show ¬ e = 5
          omega
        rw [f1]
        show out.length + 9100 * (0 + n5I Ir) + 9100 * T.1 ≤ out.length + 9100 * (0 + n5I Ir) + 9100 * (T.1 + 1)
        omega
  · obtain ⟨e1', e2', e3'⟩ := r_nost (N := N) y4 hT.1 hs hT.2.1
    rw [y6] at e1' e2' e3'
    refine nofuel (l1 := 0) (j0 := 0) C1 D2 (by decide) hT hs e2' e3' (y12 _ 10 ?_ rfl (by omega)) hol hG
    rw [hop]
    have h66 : (trb s1 (Int32.ofNat 10) pl).1 66 = Int32.ofNat 10 := rfl
    clear e2' e3'
    generalize trb s1 (Int32.ofNat 10) pl = sT at *
    unfold mf_313_185 mf_313_189 mf_313_201
    simp (disch := omega) only [ev_S, ev_P, ↓reduceIte, Nat.reduceEqDiff, Nat.reduceLeDiff, Nat.reduceAdd, Nat.reduceMul, Nat.reduceSub, reduceCtorEq, l32_0, l32_1, l32_2, l32_3, l32_4, l32_5, l32_6, l32_7, l32_8, l32_9, l32_10, l32_11, l32_12, l32_13, l32_14, l32_15, l32_16, l32_17, l32_18, l32_19, l32_20, l32_21, l32_22, l32_23, l32_24, l32_25, l32_26, l32_27, l32_28, l32_29, l32_33, l32_40, l32_41, l32_44, l32_45, l32_59, l32_61, l32_91, l32_93, l32_123, l32_125, e1', h66]
end WLK
end
-- ### 98zt.pure.lean.txt
section
/-! ===== PURE: run (123): the next of each and fold (the class) ===== -/
section NXC
variable {N : Nat} {X : Nat → Option zz_C} {t0 t t1 t2 : cS} {u w p fu m m' d d' n k b j fi : Nat} {code : List Ins} {Fs : List Fn} {T : Ty} {out : List Int32} {G F : List Fm} {sh S0 : Nat → Option Nod} {vs : List (Option Nod)} {I J : List It} {q z pl fz : Int32} {x y c : Nod} {rs : List Nod}
theorem elN_c (h0 : ¬ kn y = 0) {i : Nat} (hi : i < szN y) : ∃ hp : i < (pts y).length, elN y i = (pts y)[i] := by
  have hip : i < (pts y).length := by rw [pts_len]; exact hi
  refine ⟨hip, ?_⟩
  unfold elN
  rw [if_neg h0, List.getD_eq_getElem?_getD, List.getElem?_eq_getElem hip]
  rfl
theorem CX.eachA (C : CX t0 t p code Fs fu S0 u w ((m, d, vs, (6, rs ++ [y], k) :: I) :: G) sh T out) (hl : (cStk ((m, d, vs, (6, rs ++ [y], k) :: I) :: G)).length ≤ 17500) (hrs : rs.length = k / 2) (h0 : ¬ kn y = 0) (hi : k / 2 < szN y) (hb : szN y ≤ 64) (hf : fu ≤ 20000) (hs : T.1 < fu) : ∃ t4, CX t0 t4 p code Fs fu S0 u w ((m, d, vs, (0, [elN y (k / 2)], 0) :: (6, rs ++ [y], k) :: I) :: G) sh (T.1 + 1, T.2) out ∧ kI t4 49 17 = kI t 49 17 ∧ ∀ t5, cf_157 N X fz (Int32.ofNat 1) pl t4 = some (t5, .inl none) → cf_161 N X fz pl t = some (t5, .inl none) := by
  have e6 := cStk_6 (m := m) (d := d) (m' := m) (d' := d) (vs := vs) (l := rs ++ [y]) (k := k) (I := I) (G := G)
  obtain ⟨va, a1, a2⟩ := C.top1 (N := N) (X := X) e6
  have hlen : k / 2 + 2 ≤ (cStk ((m, d, vs, (6, rs ++ [y], k) :: I) :: G)).length := by
    rw [e6, List.length_cons, List.length_append, List.length_map, List.length_append, List.length_singleton]
    omega
  obtain ⟨vb, b1, b2⟩ := C.peek (N := N) (X := X) (k := k / 2 + 2) (by omega) hlen
  have eg : (cStk ((m, d, vs, (6, rs ++ [y], k) :: I) :: G))[k / 2 + 2 - 1]'(by omega) = some y := by
    have h1 : (cStk ((m, d, vs, (6, rs ++ [y], k) :: I) :: G))[k / 2 + 2 - 1]? = some (some y) := by
      rw [e6, show k / 2 + 2 - 1 = k / 2 + 1 by omega, List.getElem?_cons_succ, List.getElem?_append_left (by rw [List.length_map, List.length_append, List.length_singleton]; omega), List.getElem?_map, List.getElem?_append_right (by omega), show k / 2 - rs.length = 0 by omega]
      rfl
    rw [List.getElem?_eq_getElem (by omega)] at h1
    exact Option.some.inj h1
  rw [eg] at b2
  have a2 : cN (cel t) u va (nZ (Int32.ofNat (k / 2))) := a2
  have b2 : cN (cel t) u vb y := b2
  have ea := a2.z rfl
  have lo := c_lowOf (N := N) (X := X) (t := t) (k := 0) (a := ivN (nZ (Int32.ofNat (k / 2))))
  rw [← ea] at lo
  have lo : cf_256 N X va t = some (t, .inl (some (.int (Int32.ofNat (k / 2))))) := lo
  have sz := c_sizeN (N := N) (X := X) C.2.2.1 b2
  have hst := c_step (N := N) (X := X) (t := t) (q := pl) C.1.2.1.1 C.1.2.1.2.1 hf hs
  have CS1 := C.st
  have b3 : cN (cel (jI t 48 2 (Int32.ofNat (T.1 + 1)))) u vb y := b2
  obtain ⟨hip, eel⟩ := elN_c h0 hi
  obtain ⟨ve, e1, e2⟩ := c_part (N := N) (X := X) CS1.2.2.1 b3 hip
  rw [← eel] at e2
  obtain ⟨t4, r1, r2, r3, -⟩ := CS1.push (N := N) (X := X) (m' := m) (d' := d) (it := (0, [elN y (k / 2)], 0)) (o := some (elN y (k / 2))) (v := ve) (by omega) e2 (by show ¬ (0 : Nat) = 3; decide) rfl
  refine ⟨t4, r2, r3, fun t5 h5 => ?_⟩
  have hn : ¬ szN y ≤ k / 2 := by omega
  clear e2 eel r2 CS1 b3 eg e6 hlen a2 ea
  generalize hkh : k / 2 = kh at *
  generalize jI t 48 2 (Int32.ofNat (T.1 + 1)) = tS at *
  generalize szN y = sy at *
  unfold cf_161 cf_161_0 cf_161_5 cf_161_8 cf_161_16 cf_161_28 cf_161_31 cf_161_36 cf_161_39 cf_161_50 cf_161_53 cf_161_60
  simp (disch := omega) only [ev_S, ev_C, ↓reduceIte, Nat.reduceEqDiff, Nat.reduceLeDiff, Nat.reduceAdd, Nat.reduceMul, Nat.reduceSub, reduceCtorEq, l32_0, l32_1, l32_2, l32_3, l32_4, l32_5, l32_6, l32_7, l32_8, l32_9, l32_10, l32_11, l32_12, l32_13, l32_14, l32_15, l32_16, l32_17, l32_18, l32_19, l32_20, l32_21, l32_22, l32_23, l32_24, l32_25, l32_26, l32_27, l32_28, l32_29, l32_33, l32_40, l32_41, l32_44, l32_45, l32_59, l32_61, l32_91, l32_93, l32_123, l32_125, a1, lo, b1, sz, hn, hst, e1, r1, h5]
theorem CX.foldA (C : CX t0 t p code Fs fu S0 u w ((m, d, vs, (8, [y], k) :: (0, [c], j) :: I) :: G) sh T out) (hl : (cStk ((m, d, vs, (8, [y], k) :: (0, [c], j) :: I) :: G)).length ≤ 17500) (h0 : ¬ kn y = 0) (hi : k / 2 < szN y) (hb : szN y ≤ 64) (hf : fu ≤ 20000) (hs : T.1 < fu) : ∃ t4, CX t0 t4 p code Fs fu S0 u w ((m, d, vs, (0, [elN y (k / 2)], 0) :: (0, [c], 0) :: (8, [y], k) :: (0, [c], j) :: I) :: G) sh (T.1 + 1, T.2) out ∧ kI t4 49 17 = kI t 49 17 ∧ ∀ t5, cf_157 N X fz (Int32.ofNat 2) pl t4 = some (t5, .inl none) → cf_163 N X fz pl t = some (t5, .inl none) := by
  have e8 : cStk ((m, d, vs, (8, [y], k) :: (0, [c], j) :: I) :: G) = some (nZ (Int32.ofNat (k / 2))) :: some y :: some c :: cStk ((m, d, vs, I) :: G) := by
    rw [cStk_8 (m' := m) (d' := d), cStk_0 (m' := m) (d' := d)]
    rfl
  obtain ⟨va, a1, a2⟩ := C.top1 (N := N) (X := X) e8
  obtain ⟨vb, b1, b2⟩ := C.top2 (N := N) (X := X) e8
  have a2 : cN (cel t) u va (nZ (Int32.ofNat (k / 2))) := a2
  have b2 : cN (cel t) u vb y := b2
  have ea := a2.z rfl
  have lo := c_lowOf (N := N) (X := X) (t := t) (k := 0) (a := ivN (nZ (Int32.ofNat (k / 2))))
  rw [← ea] at lo
  have lo : cf_256 N X va t = some (t, .inl (some (.int (Int32.ofNat (k / 2))))) := lo
  have sz := c_sizeN (N := N) (X := X) C.2.2.1 b2
  have hst := c_step (N := N) (X := X) (t := t) (q := pl) C.1.2.1.1 C.1.2.1.2.1 hf hs
  have CS1 := C.st
  obtain ⟨vc, c1, c2'⟩ := CS1.peek (N := N) (X := X) (k := 3) (by omega) (by rw [e8, List.length_cons, List.length_cons, List.length_cons]; omega)
  have c2 : cC (cel (jI t 48 2 (Int32.ofNat (T.1 + 1)))) u vc (some c) := by
    have eg : (cStk ((m, d, vs, (8, [y], k) :: (0, [c], j) :: I) :: G))[3 - 1]'(by rw [e8, List.length_cons, List.length_cons, List.length_cons]; omega) = some c := by
      have h1 : (cStk ((m, d, vs, (8, [y], k) :: (0, [c], j) :: I) :: G))[3 - 1]? = some (some c) := by
        rw [e8]
        rfl
      rw [List.getElem?_eq_getElem (by rw [e8, List.length_cons, List.length_cons, List.length_cons]; omega)] at h1
      exact Option.some.inj h1
    rw [eg] at c2'
    exact c2'
  obtain ⟨t3, p1, p2, p3, p4⟩ := CS1.push (N := N) (X := X) (m' := m) (d' := d) (it := (0, [c], 0)) (o := some c) (v := vc) (by omega) c2 (by show ¬ (0 : Nat) = 3; decide) rfl
  have b3 : cN (cel t3) u vb y := by
    rw [p4]
    exact b2
  obtain ⟨hip, eel⟩ := elN_c h0 hi
  obtain ⟨ve, e1, e2⟩ := c_part (N := N) (X := X) p2.2.2.1 b3 hip
  rw [← eel] at e2
  obtain ⟨t4, r1, r2, r3, -⟩ := p2.push (N := N) (X := X) (m' := m) (d' := d) (it := (0, [elN y (k / 2)], 0)) (o := some (elN y (k / 2))) (v := ve) (by rw [cStk_0 (m' := m) (d' := d), List.length_cons]; omega) e2 (by show ¬ (0 : Nat) = 3; decide) rfl
  refine ⟨t4, r2, r3.trans p3, fun t5 h5 => ?_⟩
  have hn : ¬ szN y ≤ k / 2 := by omega
  clear e2 eel r2 CS1 b3 a2 ea c2 c2' p2 p4 e8
  generalize hkh : k / 2 = kh at *
  generalize jI t 48 2 (Int32.ofNat (T.1 + 1)) = tS at *
  generalize szN y = sy at *
  unfold cf_163 cf_163_0 cf_163_5 cf_163_8 cf_163_14 cf_163_26 cf_163_29 cf_163_34 cf_163_37 cf_163_43 cf_163_46 cf_163_57 cf_163_60 cf_163_67
  simp (disch := omega) only [ev_S, ev_C, ↓reduceIte, Nat.reduceEqDiff, Nat.reduceLeDiff, Nat.reduceAdd, Nat.reduceMul, Nat.reduceSub, reduceCtorEq, l32_0, l32_1, l32_2, l32_3, l32_4, l32_5, l32_6, l32_7, l32_8, l32_9, l32_10, l32_11, l32_12, l32_13, l32_14, l32_15, l32_16, l32_17, l32_18, l32_19, l32_20, l32_21, l32_22, l32_23, l32_24, l32_25, l32_26, l32_27, l32_28, l32_29, l32_33, l32_40, l32_41, l32_44, l32_45, l32_59, l32_61, l32_91, l32_93, l32_123, l32_125, a1, lo, b1, sz, hn, hst, c1, p1, e1, r1, h5]
end NXC
end
-- ### 98zu.pure.lean.txt
section
/-! ===== PURE: run (124): the next of each and fold (the reference) ===== -/
section NXR
variable {N : Nat} {s0 s s' s1 s2 : mS} {f h fu m m' d d' n k b j j' e kx : Nat} {code : List Ins} {Fs : List Fn} {T : Ty} {out : List Int32} {G F : List Fm} {sh : Nat → Option Nod} {vs : List (Option Nod)} {I J : List It} {q z pl fz : Int32} {x y c : Nod} {l rs : List Nod}
theorem RXm.turnW (R : RXm s0 s h code Fs fu f ((m, d, vs, J ++ (e, l, k) :: I) :: G) sh T out) (hJ : ∀ y ∈ J, y.1 = 0) (he : e = 6 ∨ e = 8) (hk : k % 2 = 0) : RXm s0 (mA s 82 (upd (s.2.2.1 82) (wStk ((m, d, vs, I) :: G)).length (Int32.ofNat (k / 2 + 1)))) h code Fs fu f ((m', d', vs, J ++ (e, l, k + 1) :: I) :: G) sh T out := by
  obtain ⟨r1, ⟨b1, b2, b3, b4, b5, b6, b7, b8⟩, r3⟩ := R
  have hw : e = 2 ∨ e = 3 ∨ e = 6 ∨ e = 8 := by omega
  have eW := (wStk_v (m := m) (d := d) (m' := m) (d' := d) (vs := vs) (G := G) (I := (e, l, k) :: I) hJ).trans (wStk_w (m := m) (d := d) (m' := m) (d' := d) (vs := vs) (I := I) (G := G) (it := (e, l, k)) hw)
  have eW' := (wStk_v (m := m') (d := d') (m' := m) (d' := d) (vs := vs) (G := G) (I := (e, l, k + 1) :: I) hJ).trans (wStk_w (m := m) (d := d) (m' := m) (d' := d) (vs := vs) (I := I) (G := G) (it := (e, l, k + 1)) hw)
  have eR : rStk ((m', d', vs, J ++ (e, l, k + 1) :: I) :: G) = rStk ((m, d, vs, J ++ (e, l, k) :: I) :: G) := by
    rw [rStk_app (m' := m) (d' := d), rStk_app (m' := m) (d' := d), rStk_cons (m := m) (d := d) (m' := m) (d' := d), rStk_cons (m := m) (d := d) (m' := m) (d' := d)]
    rfl
  rw [eW] at b3
  obtain ⟨hv, hr⟩ := b3
  obtain ⟨v1, v2, v3, v4⟩ := hv.2.2 (by show e = 6 ∨ e = 8; exact he)
  refine ⟨r1.keep ⟨⟨fun q r => rfl, fun _ _ => rfl, fun q r => ?_, fun _ _ => rfl⟩, fun _ _ => rfl⟩ (fun q r => rfl) rfl, ⟨by rw [eR]; exact b1, rFr.loc (s := s) (fun q q1 q2 y hy => ?_) (fun y hy => ⟨rfl, rfl⟩) (Nat.le_refl _) (fun _ _ => rfl) (F := (m', d', vs, J ++ (e, l, k + 1) :: I) :: G) (rFr.hd (a := (m, d, vs, J ++ (e, l, k) :: I)) rfl b2), ?_, b4, b5, b6, ?_, b8⟩, by rw [eR]; exact r3⟩
  · unfold aRn at r
    show (if q = 82 then _ else s.2.2.1 q) = _
    rw [if_neg (by omega)]
  · show (if q = 82 then _ else s.2.2.1 q) y = _
    rw [if_neg (by omega)]
  · rw [eW']
    refine ⟨⟨fun q => ?_, fun q => ?_, fun _ => ⟨v1, ?_, v3, v4⟩⟩, hr.mono (fun _ _ _ z => z) (fun i' hi' => ?_)⟩
    · have q : e = 2 := q
      omega
    · have q : e = 3 := q
      omega
    · show (if _ = _ then Int32.ofNat (k / 2 + 1) else _) = Int32.ofNat ((k + 1 + 1) / 2)
      rw [if_pos rfl]
      congr 1
      omega
    · show (_, _, (if i' = _ then _ else _), _, _, _) = _
      rw [if_neg (by omega)]
      rfl
  · rw [eW']
    rw [eW] at b7
    exact b7
theorem RXm.foldS (R : RXm s0 s h code Fs fu f ((m, d, vs, (0, [x], j') :: (8, [y], k) :: (0, [c], j) :: I) :: G) sh T out) : RXm s0 s h code Fs fu f ((m', d', vs, (0, [x], 0) :: (0, [c], 0) :: (8, [y], k) :: (7, [c], j) :: I) :: G) sh T out := by
  have n0 : ¬ ((0 : Nat) = 2 ∨ (0 : Nat) = 3 ∨ (0 : Nat) = 6 ∨ (0 : Nat) = 8) := by decide
  have n7 : ¬ ((7 : Nat) = 2 ∨ (7 : Nat) = 3 ∨ (7 : Nat) = 6 ∨ (7 : Nat) = 8) := by decide
  refine R.sw (W := wStk ((m, d, vs, I) :: G)) ?_ ((wStk_cons (m' := m) (d' := d) n0).trans ((wStk_w (m' := m) (d' := d) (Or.inr (Or.inr (Or.inr rfl)))).trans (by rw [wStk_cons (m := m) (d := d) (m' := m) (d' := d) n0]))) ((wStk_cons (m' := m) (d' := d) n0).trans ((wStk_cons (m := m) (d := d) (m' := m) (d' := d) n0).trans ((wStk_w (m' := m) (d' := d) (Or.inr (Or.inr (Or.inr rfl)))).trans (by rw [wStk_cons (m := m) (d := d) (m' := m) (d' := d) n7])))) (fun v H => ⟨fun q => (by cases q), fun q => (by cases q), fun _ => ?_⟩)
  · rw [rStk_cons (m' := m) (d' := d), rStk_cons (m := m) (d := d) (m' := m) (d' := d), rStk_cons (m := m) (d := d) (m' := m) (d' := d), rStk_cons (m := m) (d := d) (m' := m) (d' := d), rStk_cons (m := m) (d := d) (m' := m) (d' := d), rStk_cons (m := m) (d := d) (m' := m) (d' := d), rStk_cons (m := m) (d := d) (m' := m) (d' := d)]
    rfl
  · obtain ⟨a1, a2, a3, a4⟩ := H.2.2 (Or.inr rfl)
    exact ⟨a1, a2, fun q => (by cases q), a4⟩
theorem RXm.nextA (R : RXm s0 s h code Fs fu f ((m, d, vs, (e, rs ++ [y], k) :: I) :: G) sh T out) (hs : s = mI s1 60 z) (hstep : mf_302 N s1 = some (s, none)) (he : e = 6 ∨ e = 8) (hk : k % 2 = 0) (hkx : kx < 8000) (hl : (rStk ((m, d, vs, (e, rs ++ [y], k) :: I) :: G)).length ≤ 8700) (hw : (wStk ((m, d, vs, (e, rs ++ [y], k) :: I) :: G)).length ≤ 110) (h0 : ¬ kn y = 0) (hi : k / 2 < szN y) (hb : szN y ≤ 64) (hf : f ≤ 166300) (hG : G.length ≤ 8) : ∃ s4, RXm s0 s4 h code Fs fu f ((m', d', vs, (0, [elN y (k / 2)], 0) :: (e, rs ++ [y], k + 1) :: I) :: G) sh T out ∧ s4.1 70 = s.1 70 ∧ ∀ s5, mf_310 N (s.2.2.1 25 kx) (Int32.ofNat (if e = 6 then 1 else 2)) (Int32.ofNat kx) s4 = some (s5, none) → mf_317 N (Int32.ofNat kx) s1 = some (s5, none) := by
  have hw6 : e = 2 ∨ e = 3 ∨ e = 6 ∨ e = 8 := by omega
  have eW := wStk_w (m := m) (d := d) (m' := m) (d' := d) (vs := vs) (I := I) (G := G) (it := (e, rs ++ [y], k)) hw6
  have h66 : s.1 66 = Int32.ofNat 0 := R.1.2.2.1.1
  have h79 := R.2.1.2.2.2.2.2.2.1
  have hv := R.2.1.2.2.1
  have h73 : s.1 73 = Int32.ofNat (G.length + 1) := R.2.1.2.2.2.2.2.1
  have h51 := R.2.2
  rw [eW, List.length_cons] at h79 hw
  rw [eW] at hv
  obtain ⟨v1, v2, v3, v4⟩ := hv.1.2.2 he
  obtain ⟨a, v5, v6, v7⟩ := v4 rs y rfl
  have v1 : s.2.2.1 80 (wStk ((m, d, vs, I) :: G)).length = Int32.ofNat (if e = 6 then 3 else 4) := v1
  have v8 : s.2.2.1 82 (wStk ((m, d, vs, I) :: G)).length = Int32.ofNat (k / 2) := by
    have : s.2.2.1 82 (wStk ((m, d, vs, I) :: G)).length = Int32.ofNat ((k + 1) / 2) := v2
    rw [this]
    congr 1
    omega
  have v5 : s.2.2.1 81 (wStk ((m, d, vs, I) :: G)).length = Int32.ofNat a := v5
  have v7 : s.2.2.1 83 (wStk ((m, d, vs, I) :: G)).length = Int32.ofNat (szN y) := v7
  obtain ⟨hip, eel⟩ := elN_c h0 hi
  obtain ⟨kk, v, e3, e4⟩ := r_elem (N := N) v6 hf hip h51 (by omega)
  rw [← eel] at e4
  obtain ⟨sP, g1, g2, g3, g4, g5⟩ := R.push (N := N) (m' := m) (d' := d) (it := (0, [elN y (k / 2)], 0)) (by omega) e4 (by show ¬ ((0 : Nat) = 2 ∨ (0 : Nat) = 3 ∨ (0 : Nat) = 6 ∨ (0 : Nat) = 8); decide) rfl
  rw [r_psh (N := N) h51 (by omega)] at g1
  have g1 : sP = pus s (rStk ((m, d, vs, (e, rs ++ [y], k) :: I) :: G)).length kk v := by
    have := congrArg (fun o => o.map Prod.fst) g1
    exact (Option.some.inj this).symm
  rw [← g1] at e3
  have RT := RXm.turnW (J := [(0, [elN y (k / 2)], 0)]) (m' := m') (d' := d') g2 (fun y hy => by rw [List.mem_singleton.mp hy]) he hk
  refine ⟨_, RT, g4, fun s5 h5 => ?_⟩
  have w82 : sP.2.2.1 82 (wStk ((m, d, vs, I) :: G)).length = Int32.ofNat (k / 2) := by rw [g1]; exact v8
  have w80 : sP.2.2.1 80 (wStk ((m, d, vs, I) :: G)).length = Int32.ofNat (if e = 6 then 3 else 4) := by rw [g1]; exact v1
  have w25 : sP.2.2.1 25 kx = s.2.2.1 25 kx := by rw [g1]; rfl
  have u79 : s1.1 79 = Int32.ofNat ((wStk ((m, d, vs, I) :: G)).length + 1) := by rw [← h79, hs]; rfl
  have u82 : s1.2.2.1 82 (wStk ((m, d, vs, I) :: G)).length = Int32.ofNat (k / 2) := by rw [← v8, hs]; rfl
  have u83 : s1.2.2.1 83 (wStk ((m, d, vs, I) :: G)).length = Int32.ofNat (szN y) := by rw [← v7, hs]; rfl
  clear RT g1 g2 hv v2 v3 v4 v6 eW e4 eel hs R
  generalize (wStk ((m, d, vs, I) :: G)).length = nw at *
  generalize s.2.2.1 25 kx = fx at *
  generalize hkh : k / 2 = kh at *
  generalize szN y = sy at *
  have sb : Int32.ofNat (nw + 1) - Int32.ofNat 1 = Int32.ofNat nw := by rw [← Int32.ofNat_sub _ _ (by omega)]; rfl
  have n1 : ¬ sy ≤ kh := by omega
  have n10 : ¬ G.length + 1 = 10 := by omega
  have w80' : (mA sP 82 (upd (sP.2.2.1 82) nw (Int32.ofNat (kh + 1)))).2.2.1 80 nw = Int32.ofNat (if e = 6 then 3 else 4) := w80
  rcases he with he | he
  · subst he
    have w81 : sP.2.2.1 80 nw = Int32.ofNat 3 := w80
    have h5' : mf_310 N fx (Int32.ofNat 1) (Int32.ofNat kx) _ = _ := h5
    unfold mf_317 mf_317_0 mf_317_22 mf_317_26 mf_317_34 mf_317_54 mf_317_70 mf_317_97 mf_317_102 mf_317_106
    simp (disch := omega) only [ev_S, ev_P, ↓reduceIte, Nat.reduceEqDiff, Nat.reduceLeDiff, Nat.reduceAdd, Nat.reduceMul, Nat.reduceSub, reduceCtorEq, l32_0, l32_1, l32_2, l32_3, l32_4, l32_5, l32_6, l32_7, l32_8, l32_9, l32_10, l32_11, l32_12, l32_13, l32_14, l32_15, l32_16, l32_17, l32_18, l32_19, l32_20, l32_21, l32_22, l32_23, l32_24, l32_25, l32_26, l32_27, l32_28, l32_29, l32_33, l32_40, l32_41, l32_44, l32_45, l32_59, l32_61, l32_91, l32_93, l32_123, l32_125, u79, sb, u82, u83, n1, hstep, h66, h73, n10, v5, v8, e3, w82, w81, w25, h5', l32_8000]
  · subst he
    have w81 : sP.2.2.1 80 nw = Int32.ofNat 4 := w80
    have h5' : mf_310 N fx (Int32.ofNat 2) (Int32.ofNat kx) _ = _ := h5
    unfold mf_317 mf_317_0 mf_317_22 mf_317_26 mf_317_34 mf_317_54 mf_317_70 mf_317_101 mf_317_102 mf_317_106
    simp (disch := omega) only [ev_S, ev_P, ↓reduceIte, Nat.reduceEqDiff, Nat.reduceLeDiff, Nat.reduceAdd, Nat.reduceMul, Nat.reduceSub, reduceCtorEq, l32_0, l32_1, l32_2, l32_3, l32_4, l32_5, l32_6, l32_7, l32_8, l32_9, l32_10, l32_11, l32_12, l32_13, l32_14, l32_15, l32_16, l32_17, l32_18, l32_19, l32_20, l32_21, l32_22, l32_23, l32_24, l32_25, l32_26, l32_27, l32_28, l32_29, l32_33, l32_40, l32_41, l32_44, l32_45, l32_59, l32_61, l32_91, l32_93, l32_123, l32_125, u79, sb, u82, u83, n1, hstep, h66, h73, n10, v5, v8, e3, w82, w81, w25, h5', l32_8000]
end NXR
end
-- ### 98zv.pure.lean.txt
section
/-! ===== PURE: run (125): each calls ===== -/
section NXE
variable {N : Nat} {X : Nat → Option zz_C} {t0 t t1 t2 : cS} {s0 s s1 s2 : mS} {u w f p h fu m m' d d' n k b j fi : Nat} {code : List Ins} {Fs : List Fn} {T T1 : Ty} {out : List Int32} {G F : List Fm} {sh S0 : Nat → Option Nod} {vs : List (Option Nod)} {I J I' Iq : List It} {q z pl : Int32} {x y c : Nod} {rs xs : List Nod} {g : Fn} {L : List Nat}
theorem CK.ent2 (K : CK code Fs fu ((m, d, vs, I) :: G) sh T out n) (P : PL code Fs m vs I g) (hG : G.length ≤ 8) (hfi : fi < Fs.length) (hx : ∀ x ∈ xs, wfN x ∧ x.1 ≤ 4) (hsus : tyS code (m, d', vs, I')) (hok : okIs code g.2.2.2.2.1 g.2.2.2.2.2 I') (hnv : xs.length ≤ Fs[fi].2.2.2.1) (hT1 : okTy fu T1 ∧ T1.2.1 = T.2.1 ∧ T1.1 = T.1 + 1) (hg : gdS (cStk ((m, d', vs, I') :: G))) (hpot : k + 4 + crL I' + pvI I ≤ crL I + 20 + pvI I') (h5 : n5I I' ≤ n5I I) : CK code Fs fu ((Fs[fi].2.2.2.2.1, 0, xs.map some ++ List.replicate (Fs[fi].2.2.2.1 - xs.length) none, []) :: (m, d', vs, I') :: G) sh (opT T1 (G.length + 2)) out (n + k) := by
  obtain ⟨⟨h1, h2⟩, h3, ⟨a, G', e', t1, t2, t3⟩, h6, h7, h8, h9⟩ := K
  cases e'
  obtain ⟨hT1a, hT1b, hT1c⟩ := hT1
  have hFO := h1.1 Fs[fi] (List.getElem_mem hfi)
  refine ⟨⟨h1, hT1a.1, hT1a.2.1, hT1a.2.2.1, ?_, hT1a.2.2.2.2⟩, ?_, ⟨_, _, rfl, ⟨[], hFO.2.2.1, Or.inl ⟨rfl, rfl, fun y hy => by cases hy⟩⟩, ⟨Fs[fi], List.getElem_mem hfi, Nat.le_refl _, hFO.1, ?_, trivial⟩, fun c hc => ?_⟩, fun x hx' => ?_, h7, ?_, ?_⟩
  · show (if T1.2.2.1 < G.length + 2 then G.length + 2 else T1.2.2.1) ≤ 10
    have := hT1a.2.2.2.1
    split <;> omega
  · show G.length + 1 + 1 ≤ 10
    omega
  · show (xs.map some ++ List.replicate (Fs[fi].2.2.2.1 - xs.length) none).length = _
    rw [List.length_append, List.length_map, List.length_replicate]
    omega
  · rcases List.mem_cons.mp hc with e | e
    · rw [e]
      exact ⟨hsus, g, P.1, P.2.1.1, P.2.1.2.1, P.2.2.1.1, hok⟩
    · exact t3 c e
  · have hx' : some x ∈ [] ++ ((xs.map some ++ List.replicate (Fs[fi].2.2.2.1 - xs.length) none).reverse ++ cStk ((m, d', vs, I') :: G)) := hx'
    rcases List.mem_append.mp hx' with e | e
    · cases e
    · rcases List.mem_append.mp e with e | e
      · rcases List.mem_append.mp (List.mem_reverse.mp e) with e | e
        · obtain ⟨y, hy, e2⟩ := List.mem_map.mp e
          cases e2
          exact hx x hy
        · have := List.eq_of_mem_replicate e
          cases this
      · exact hg x e
  · have h8 : n + (4 + crL I + cr G) ≤ 20 * T.1 + 60 * T.2.1 + (pvI I + pv G) + 4 := h8
    show n + k + (4 + 0 + (4 + crL I' + cr G)) ≤ 20 * T1.1 + 60 * T1.2.1 + (0 + (pvI I' + pv G)) + 4
    rw [hT1b, hT1c]
    omega
  · have h9 : out.length + 9100 * (n5I I + n5 G) ≤ 9100 * T.1 := h9
    show out.length + 9100 * (0 + (n5I I' + n5 G)) ≤ 9100 * T1.1
    rw [hT1c]
    omega
theorem n_each (hN : 170000 ≤ N) (C : CS t0 t p code Fs fu S0 ((m, 1, vs, (6, rs ++ [y], k) :: Iq) :: G) sh T out) (R : RSm s0 s h code Fs fu ((m, 1, vs, (6, rs ++ [y], k) :: Iq) :: G) sh T out) (K : CK code Fs fu ((m, 1, vs, (6, rs ++ [y], k) :: Iq) :: G) sh T out n) (ho : (inA code m).1 = 10) (hr : (inA code m).2.2.1 = 1) (hL : lyo (code.take m) = some L) (hk1 : pop0 1 L = some (kd Iq)) (hk2 : k % 2 = 0) (hpl : plI Iq) (hi : k / 2 < szN y) (hs : T.1 < fu) (hG8 : G.length ≤ 8) : GO N X t0 s0 p h code Fs fu S0 t s n := by
  obtain ⟨u, w, f, g, C1, C2, C4, R1, R2, R4, P, hm, hcx, hrl, hG, ⟨b1, b2, b6⟩, hT, hol⟩ := open0 C R K
  obtain ⟨ec, er⟩ := cI_10 (code := code) (own := posC code m) (e := h) ho
  obtain ⟨hfi, hpar⟩ := K.1.1.2.1 m hm (Or.inr ho)
  have hfi : (inA code m).2.1 < Fs.length := hfi
  have hpar : Fs[(inA code m).2.1].2.2.1 = (inA code m).2.2.1 := hpar
  have hFO := K.1.1.1 _ (List.getElem_mem hfi)
  have hF12 : Fs.length ≤ 12 := C1.1.1.2.2.2.2.1
  have hbd := K.bd
  have h30 := hT.2.2.1
  obtain ⟨rs', y', w1, w2, w3, w4⟩ := P.2.2.2.1.1.2.2.2.2.1 rfl
  have w1 : rs ++ [y] = rs' ++ [y'] := w1
  obtain ⟨ea, eb⟩ := List.append_inj' w1 rfl
  have eb : y = y' := by simpa using eb
  subst ea eb
  have w2 : rs.length = k / 2 := w2
  have hgK := K.2.2.2.1
  have wy : wfN y ∧ y.1 ≤ 4 := by
    refine hgK y ?_
    rw [cStk_6 (m' := m) (d' := 0)]
    exact List.mem_cons_of_mem _ (List.mem_append_left _ (List.mem_map.mpr ⟨y, List.mem_append_right _ List.mem_cons_self, rfl⟩))
  have s64 := wf64 wy.1
  have hnv : 1 ≤ Fs[(inA code m).2.1].2.2.2.1 ∧ Fs[(inA code m).2.1].2.2.2.1 ≤ 14 := by
    have := hFO.2.2.2.2.2.2.1
    rw [hr] at hpar
    omega
  rw [if_pos hr, if_pos hr, fa_e (by omega)] at ec
  rw [fr_fb (by omega)] at er
  generalize (inA code m).2.2.2.2.1 = pl at *
  have hcBk : cBk code ((m, 1, vs, (6, rs ++ [y], k + 1) :: Iq) :: G) = posC code m + 2 := by
    show posC code m + (if (inA code m).1 = 10 then 2 else 1) = _
    rw [if_pos ho]
  generalize hfe : (inA code m).2.1 = fi at *
  obtain ⟨D1, D2⟩ := C1.fet (N := N) (X := X) (n := n) (l1 := [((25 : Int32), (0 : Int32), pl)]) (dd := 1) rfl C4 hm ec hcx (by omega)
  obtain ⟨s1, kx, y1, y2, y3, y4, y5, y6, ⟨y7, y8, y9, y10⟩, y11, y12⟩ := R1.fet (N := N) (l1 := [((10 : Int32), Int32.ofNat (27 + (inA code m).2.2.1), (0 : Int32), (0 : Int32), pl)]) (dd := 1) hG rfl R4 hm er hrl
  obtain ⟨F1, F2⟩ := D1.forget (N := N) (X := X)
  obtain ⟨va, i1, i2⟩ := F2.top1 (N := N) (X := X) (cStk_6 (m' := m) (d' := 0))
  obtain ⟨vb, i3⟩ := F2.peekA (N := N) (X := X) (by omega)
  obtain ⟨t4, e1, e2, e3⟩ := F2.eachA (N := N) (X := X) (fz := Int32.ofNat fi) (pl := pl) b2 w2 w3 hi s64 hT.1 hs
  have E6 : cStk ((m, 1, vs, (6, rs ++ [y], k + 1) :: Iq) :: G) = cStk ((m, 1, vs, (6, rs ++ [y], k) :: Iq) :: G) := by
    rw [cStk_6 (m' := m) (d' := 0), cStk_6 (m' := m) (d' := 0), show (k + 1) / 2 = k / 2 by omega]
  have e1' : CX t0 t4 p code Fs fu S0 u 0 ((m, 1, vs, [(0, [elN y (k / 2)], 0)] ++ (6, rs ++ [y], k + 1) :: Iq) :: G) sh (T.1 + 1, T.2) out := by
    refine e1.re ?_ ?_
    · show cStk ((m, 1, vs, (0, [elN y (k / 2)], 0) :: (6, rs ++ [y], k + 1) :: Iq) :: G) = _
      rw [cStk_0 (m' := m) (d' := 1), cStk_0 (m' := m) (d' := 1), E6]
    · show tStk ((m, 1, vs, (0, [elN y (k / 2)], 0) :: (6, rs ++ [y], k + 1) :: Iq) :: G) = _
      rw [tStk_0 (m' := m) (d' := 1), tStk_0 (m' := m) (d' := 1), tStk_678 (m' := m) (d' := 1) (Or.inl rfl), tStk_678 (m' := m) (d' := 1) (Or.inl rfl)]
  obtain ⟨t5, v1, v2, v3⟩ := e1'.enter (N := N) (X := X) (d' := 1) (fi := fi) (q := pl) (xs := [elN y (k / 2)]) hN rfl (fun a ha => by rw [List.mem_singleton.mp ha]; show ¬ (0 : Nat) = 3; decide) hfi hG8 (by rw [hcBk]; exact e2) (by show (cStk ((m, 1, vs, (0, [elN y (k / 2)], 0) :: (6, rs ++ [y], k + 1) :: Iq) :: G)).length ≤ _; rw [cStk_0 (m' := m) (d' := 1), E6, List.length_cons]; omega) hnv hT.2.2.2.1
  have hstep := r_step (N := N) y4 hT.1 hs
  obtain ⟨s4, f1, f2, f3⟩ := (y4.st).nextA (N := N) (m' := m) (d' := 1) (kx := kx) rfl hstep (Or.inl rfl) hk2 y3 b1 hbd.2.2.1 w3 hi s64 (by omega) hG8
  have hbk : rBk h code ((m, 1, vs, (6, rs ++ [y], k + 1) :: Iq) :: G) = Int32.ofNat kx := by
    rw [y1]
    rfl
  have hrl6 : (rStk ((m, 1, vs, (0, [elN y (k / 2)], 0) :: (6, rs ++ [y], k + 1) :: Iq) :: G)).length ≤ 8800 := by
    rw [rStk_cons (m' := m) (d' := 1), rStk_cons (m' := m) (d' := 1)]
    rw [rStk_cons (m' := m) (d' := 1)] at b1
    rw [List.length_append]
    show 1 + (iR (6, rs ++ [y], k) ++ rStk ((m, 1, vs, Iq) :: G)).length ≤ _
    omega
  obtain ⟨s5, r1, r2, r3⟩ := RXm.enter (N := N) (d' := 1) (fi := fi) (J := [(0, [elN y (k / 2)], 0)]) (xs := [elN y (k / 2)]) hN f1 rfl (wStk_v (fun a ha => by rw [List.mem_singleton.mp ha])) hfi hF12 hG8 hrl6 hnv hT.2.2.2.1
  rw [hbk] at r1
  have y9' : (mI s1 60 (Int32.ofNat (T.1 + 1))).2.2.1 25 kx = Int32.ofNat (fb0 h + fi) := y9
  have h317 : mf_317 N (Int32.ofNat kx) s1 = some (s5, none) := f3 s5 (by rw [y9']; exact r1)
  have hT1 : okTy fu (T.1 + 1, T.2) := ⟨hT.1, hs, hT.2.2⟩
  have hel : wfN (elN y (k / 2)) ∧ (elN y (k / 2)).1 ≤ 4 := elN_ok wy (by unfold lim; rw [if_neg w3]; exact hi)
  refine goOn (k := 1) (j := 1) (by omega) (fun Q => ?_) (fun Q x2 => y11 s5 ?_ r2.1.2.2.1.1 Q x2) v2 C2 v3 r2 R2 r3 (K.ent2 P hG8 hfi (xs := [elN y (k / 2)]) (fun a ha => by rw [List.mem_singleton.mp ha]; exact hel) ⟨L, hL, Or.inr ⟨ho, Or.inl ⟨hr, _, Iq, rfl, rfl, ⟨hk1, ?_⟩, hpl⟩⟩⟩ ⟨?_, P.2.2.2.1.2⟩ hnv.1 ⟨hT1, rfl, rfl⟩ ?_ ?_ ?_)
  · rw [D2 Q]
    refine c_rdW (by decide) (by decide) (by decide) ((c_143o F1 i1 i3).trans (c_wk13.trans ?_))
    have e4 := e3 t5 v1
    unfold cf_143_265 cf_143_271 cf_143_296
    rw [e4]
    rfl
  · rw [r_op11 y3 y7]
    unfold mf_313_202 mf_313_207
    rw [h317]
    rfl
  · show (k + 1) % 2 = 1
    omega
  · refine ⟨by show (6 : Nat) ≤ 8; omega, fun q => (by rcases q with q | q <;> cases q), fun q => (by cases q), fun q => (by cases q), fun _ => ⟨rs, y, rfl, ?_, w3, ?_⟩, fun q => (by cases q)⟩
    · show rs.length = (k + 1) / 2
      omega
    · show (k + 1 + 1) / 2 ≤ szN y
      omega
  · rw [E6]
    exact hgK
  · rw [crL_c, crL_c]
    show 1 + 4 + (3 + crL Iq) + (k / 2 + pvI Iq) ≤ 3 + crL Iq + 20 + ((k + 1) / 2 + pvI Iq)
    omega
  · rw [n5I_c, n5I_c]
    exact Nat.le_refl _
end NXE
end
