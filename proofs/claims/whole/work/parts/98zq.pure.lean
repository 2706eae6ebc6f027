/-! ===== PURE: run (120): what each and fold got ===== -/
section GOT
variable {N : Nat} {X : Nat → Option zz_C} {t0 t t1 t2 : cS} {s0 s s1 s2 : mS} {u w f p h fu m m' d d' n k b j j' i : Nat} {code : List Ins} {Fs : List Fn} {T : Ty} {out : List Int32} {G F : List Fm} {sh S0 : Nat → Option Nod} {vs : List (Option Nod)} {I J I' : List It} {q z z' pc : Int32} {x y c : Nod} {l : List Nod} {v : Int64}
theorem cStk_6 : cStk ((m, d, vs, (6, l, k) :: I) :: G) = some (nZ (Int32.ofNat (k / 2))) :: (l.map some ++ cStk ((m', d', vs, I) :: G)) := by
  rw [cStk_cons (m' := m') (d' := d')]
  rfl
theorem cStk_8 : cStk ((m, d, vs, (8, l, k) :: I) :: G) = some (nZ (Int32.ofNat (k / 2))) :: (l.map some ++ cStk ((m', d', vs, I) :: G)) := by
  rw [cStk_cons (m' := m') (d' := d')]
  rfl
theorem cStk_7 : cStk ((m, d, vs, (7, l, k) :: I) :: G) = l.map some ++ cStk ((m', d', vs, I) :: G) := by
  rw [cStk_cons (m' := m') (d' := d')]
  rfl
theorem cStk_0 : cStk ((m, d, vs, (0, [x], k) :: I) :: G) = some x :: cStk ((m', d', vs, I) :: G) := by
  rw [cStk_cons (m' := m') (d' := d')]
  rfl
theorem tStk_678 {a : It} (h : a.1 = 6 ∨ a.1 = 7 ∨ a.1 = 8) : tStk ((m, d, vs, a :: I) :: G) = tStk ((m', d', vs, I) :: G) := tStk_cons (by omega)
theorem CX.gotE (C : CX t0 t p code Fs fu S0 u w ((m, d, vs, (0, [x], j) :: (6, l, k) :: I) :: G) sh T out) (hk : (k + 1) / 2 = k / 2 + 1) (hb : k < 1000) (hl : (cStk ((m, d, vs, (0, [x], j) :: (6, l, k) :: I) :: G)).length ≤ 17600) : ∃ t', cf_162 N X pc t = some (jI t' 49 17 pc, .inl none) ∧ CX t0 t' p code Fs fu S0 u w ((m', d', vs, (6, x :: l, k + 1) :: I) :: G) sh T out := by
  have CV : CX t0 t p code Fs fu S0 u w ((m, d, vs, (0, [x], 0) :: (0, [nZ (Int32.ofNat (k / 2))], 0) :: (7, l, 0) :: I) :: G) sh T out := C.re (by rw [cStk_0 (m' := m) (d' := d), cStk_0 (m' := m) (d' := d), cStk_7 (m' := m) (d' := d), cStk_0 (m' := m) (d' := d), cStk_6 (m' := m) (d' := d)]) (by rw [tStk_0 (m' := m) (d' := d), tStk_0 (m' := m) (d' := d), tStk_678 (m' := m) (d' := d) (Or.inr (Or.inl rfl)), tStk_0 (m' := m) (d' := d), tStk_678 (m' := m) (d' := d) (Or.inl rfl)])
  have hl0 : (cStk ((m, d, vs, (7, l, 0) :: I) :: G)).length + 1 + 1 ≤ 17600 := by
    rw [cStk_0 (m' := m) (d' := d), cStk_6 (m' := m) (d' := d)] at hl
    rw [cStk_7 (m' := m) (d' := d)]
    exact hl
  obtain ⟨t2, vx, p1, p2, p3, -, p5⟩ := CV.pop (N := N) (X := X) (m' := m) (d' := d) (o := some x) (by rw [cStk_0 (m' := m) (d' := d), cStk_0 (m' := m) (d' := d), List.length_cons, List.length_cons]; omega) (by show ¬ (0 : Nat) = 3; decide) rfl
  obtain ⟨t3, vi, q1, q2, q3, -, q5⟩ := p3.pop (N := N) (X := X) (m' := m) (d' := d) (o := some (nZ (Int32.ofNat (k / 2)))) (by rw [cStk_0 (m' := m) (d' := d), List.length_cons]; omega) (by show ¬ (0 : Nat) = 3; decide) rfl
  have p2 : cN (cel t) u vx x := p2
  have q2 : cN (cel t2) u vi (nZ (Int32.ofNat (k / 2))) := q2
  obtain ⟨t4, r1, r2, -, r4⟩ := q3.push (N := N) (X := X) (m' := m) (d' := d) (it := (0, [x], 0)) (o := some x) (v := vx) (by omega) (by rw [q5, p5]; exact p2) (by show ¬ (0 : Nat) = 3; decide) rfl
  have ei := q2.z rfl
  have lo := c_lowOf (N := N) (X := X) (t := t4) (k := 0) (a := ivN (nZ (Int32.ofNat (k / 2))))
  rw [← ei] at lo
  have lo : cf_256 N X vi t4 = some (t4, .inl (some (.int (Int32.ofNat (k / 2))))) := lo
  obtain ⟨t5, w1, w2, -, -⟩ := r2.push (N := N) (X := X) (m' := m) (d' := d) (it := (0, [nZ (Int32.ofNat (k / 2 + 1))], 0)) (o := some (nZ (Int32.ofNat (k / 2 + 1)))) (v := tg (Int32.ofNat 0) (Int32.ofNat (k / 2 + 1))) (by rw [cStk_0 (m' := m) (d' := d), List.length_cons]; omega) cN_Z (by show ¬ (0 : Nat) = 3; decide) rfl
  refine ⟨t5, ?_, w2.re ?_ ?_⟩
  · have eth := c_thing (N := N) (X := X) (t := t4) (k := Int32.ofNat 0) (a := Int32.ofNat (k / 2 + 1))
    have hb2 : k / 2 < 500 := by omega
    generalize k / 2 = kh at *
    unfold cf_162 cf_162_0 cf_162_4 cf_162_9 cf_162_16 cf_162_23 cf_162_28 cf_162_31
    simp (disch := omega) only [ev_S, ev_C, ↓reduceIte, Nat.reduceEqDiff, Nat.reduceLeDiff, Nat.reduceAdd, Nat.reduceMul, Nat.reduceSub, reduceCtorEq, l32_0, l32_1, l32_2, l32_3, l32_4, l32_5, l32_6, l32_7, l32_8, l32_9, l32_10, l32_11, l32_12, l32_13, l32_14, l32_15, l32_16, l32_17, l32_18, l32_19, l32_20, l32_21, l32_22, l32_23, l32_24, l32_25, l32_26, l32_27, l32_28, l32_29, l32_33, l32_40, l32_41, l32_44, l32_45, l32_59, l32_61, l32_91, l32_93, l32_123, l32_125, p1, q1, r1, lo, eth, w1]
  · rw [cStk_6 (m' := m) (d' := d), cStk_0 (m' := m) (d' := d), cStk_0 (m' := m) (d' := d), cStk_7 (m' := m) (d' := d), hk]
    rfl
  · rw [tStk_678 (m' := m) (d' := d) (Or.inl rfl), tStk_0 (m' := m) (d' := d), tStk_0 (m' := m) (d' := d), tStk_678 (m' := m) (d' := d) (Or.inr (Or.inl rfl))]
theorem CX.gotF (C : CX t0 t p code Fs fu S0 u w ((m, d, vs, (0, [x], j) :: (8, [y], k) :: (7, [c], j') :: I) :: G) sh T out) (hk : (k + 1) / 2 = k / 2 + 1) (hb : k < 1000) (hl : (cStk ((m, d, vs, (0, [x], j) :: (8, [y], k) :: (7, [c], j') :: I) :: G)).length ≤ 17600) : ∃ t', cf_164 N X pc t = some (jI t' 49 17 pc, .inl none) ∧ CX t0 t' p code Fs fu S0 u w ((m', d', vs, (8, [y], k + 1) :: (0, [x], 0) :: I) :: G) sh T out := by
  have CV : CX t0 t p code Fs fu S0 u w ((m, d, vs, (0, [x], 0) :: (0, [nZ (Int32.ofNat (k / 2))], 0) :: (0, [y], 0) :: (0, [c], 0) :: I) :: G) sh T out := C.re (by rw [cStk_0 (m' := m) (d' := d), cStk_0 (m' := m) (d' := d), cStk_0 (m' := m) (d' := d), cStk_0 (m' := m) (d' := d), cStk_0 (m' := m) (d' := d), cStk_8 (m' := m) (d' := d), cStk_7 (m' := m) (d' := d)]; rfl) (by rw [tStk_0 (m' := m) (d' := d), tStk_0 (m' := m) (d' := d), tStk_0 (m' := m) (d' := d), tStk_0 (m' := m) (d' := d), tStk_0 (m' := m) (d' := d), tStk_678 (m' := m) (d' := d) (Or.inr (Or.inr rfl)), tStk_678 (m' := m) (d' := d) (Or.inr (Or.inl rfl))])
  have hl0 : (cStk ((m, d, vs, I) :: G)).length + 1 + 1 + 1 + 1 ≤ 17600 := by
    rw [cStk_0 (m' := m) (d' := d), cStk_8 (m' := m) (d' := d), cStk_7 (m' := m) (d' := d)] at hl
    exact hl
  obtain ⟨t2, vx, p1, p2, p3, -, p5⟩ := CV.pop (N := N) (X := X) (m' := m) (d' := d) (o := some x) (by rw [cStk_0 (m' := m) (d' := d), cStk_0 (m' := m) (d' := d), cStk_0 (m' := m) (d' := d), cStk_0 (m' := m) (d' := d), List.length_cons, List.length_cons, List.length_cons, List.length_cons]; omega) (by show ¬ (0 : Nat) = 3; decide) rfl
  obtain ⟨t3, vi, q1, q2, q3, -, q5⟩ := p3.pop (N := N) (X := X) (m' := m) (d' := d) (o := some (nZ (Int32.ofNat (k / 2)))) (by rw [cStk_0 (m' := m) (d' := d), cStk_0 (m' := m) (d' := d), cStk_0 (m' := m) (d' := d), List.length_cons, List.length_cons, List.length_cons]; omega) (by show ¬ (0 : Nat) = 3; decide) rfl
  obtain ⟨t4, vy, a1, a2, a3, -, a5⟩ := q3.pop (N := N) (X := X) (m' := m) (d' := d) (o := some y) (by rw [cStk_0 (m' := m) (d' := d), cStk_0 (m' := m) (d' := d), List.length_cons, List.length_cons]; omega) (by show ¬ (0 : Nat) = 3; decide) rfl
  obtain ⟨t5, vc, b1, b2, b3, -, b5⟩ := a3.pop (N := N) (X := X) (m' := m) (d' := d) (o := some c) (by rw [cStk_0 (m' := m) (d' := d), List.length_cons]; omega) (by show ¬ (0 : Nat) = 3; decide) rfl
  have p2 : cN (cel t) u vx x := p2
  have q2 : cN (cel t2) u vi (nZ (Int32.ofNat (k / 2))) := q2
  have a2 : cN (cel t3) u vy y := a2
  obtain ⟨t6, r1, r2, -, r4⟩ := b3.push (N := N) (X := X) (m' := m) (d' := d) (it := (0, [x], 0)) (o := some x) (v := vx) (by omega) (by rw [b5, a5, q5, p5]; exact p2) (by show ¬ (0 : Nat) = 3; decide) rfl
  obtain ⟨t7, s1, s2, -, s4⟩ := r2.push (N := N) (X := X) (m' := m) (d' := d) (it := (0, [y], 0)) (o := some y) (v := vy) (by rw [cStk_0 (m' := m) (d' := d), List.length_cons]; omega) (by rw [r4, b5, a5]; exact a2) (by show ¬ (0 : Nat) = 3; decide) rfl
  have ei := q2.z rfl
  have lo := c_lowOf (N := N) (X := X) (t := t7) (k := 0) (a := ivN (nZ (Int32.ofNat (k / 2))))
  rw [← ei] at lo
  have lo : cf_256 N X vi t7 = some (t7, .inl (some (.int (Int32.ofNat (k / 2))))) := lo
  obtain ⟨t8, w1, w2, -, -⟩ := s2.push (N := N) (X := X) (m' := m) (d' := d) (it := (0, [nZ (Int32.ofNat (k / 2 + 1))], 0)) (o := some (nZ (Int32.ofNat (k / 2 + 1)))) (v := tg (Int32.ofNat 0) (Int32.ofNat (k / 2 + 1))) (by rw [cStk_0 (m' := m) (d' := d), cStk_0 (m' := m) (d' := d), List.length_cons, List.length_cons]; omega) cN_Z (by show ¬ (0 : Nat) = 3; decide) rfl
  refine ⟨t8, ?_, w2.re ?_ ?_⟩
  · have eth := c_thing (N := N) (X := X) (t := t7) (k := Int32.ofNat 0) (a := Int32.ofNat (k / 2 + 1))
    have hb2 : k / 2 < 500 := by omega
    generalize k / 2 = kh at *
    unfold cf_164 cf_164_0 cf_164_4 cf_164_9 cf_164_15 cf_164_21 cf_164_27 cf_164_33 cf_164_40 cf_164_45 cf_164_48
    simp (disch := omega) only [ev_S, ev_C, ↓reduceIte, Nat.reduceEqDiff, Nat.reduceLeDiff, Nat.reduceAdd, Nat.reduceMul, Nat.reduceSub, reduceCtorEq, l32_0, l32_1, l32_2, l32_3, l32_4, l32_5, l32_6, l32_7, l32_8, l32_9, l32_10, l32_11, l32_12, l32_13, l32_14, l32_15, l32_16, l32_17, l32_18, l32_19, l32_20, l32_21, l32_22, l32_23, l32_24, l32_25, l32_26, l32_27, l32_28, l32_29, l32_33, l32_40, l32_41, l32_44, l32_45, l32_59, l32_61, l32_91, l32_93, l32_123, l32_125, p1, q1, a1, b1, r1, s1, lo, eth, w1]
  · rw [cStk_8 (m' := m) (d' := d), cStk_0 (m' := m) (d' := d), cStk_0 (m' := m) (d' := d), cStk_0 (m' := m) (d' := d), cStk_0 (m' := m) (d' := d), hk]
    rfl
  · rw [tStk_678 (m' := m) (d' := d) (Or.inr (Or.inr rfl)), tStk_0 (m' := m) (d' := d), tStk_0 (m' := m) (d' := d), tStk_0 (m' := m) (d' := d), tStk_0 (m' := m) (d' := d)]
/-- the uppermost way is seen otherwise -/
theorem RXm.sw {e e' : It × Nat × Nat} {W : List (It × Nat × Nat)} (R : RXm s0 s h code Fs fu f ((m, d, vs, I) :: G) sh T out) (hr : rStk ((m', d', vs, I') :: G) = rStk ((m, d, vs, I) :: G)) (hw : wStk ((m, d, vs, I) :: G) = e :: W) (hw' : wStk ((m', d', vs, I') :: G) = e' :: W) (he : ∀ v, wayP (s.2.2.1 47) f h code v e → wayP (s.2.2.1 47) f h code v e') : RXm s0 s h code Fs fu f ((m', d', vs, I') :: G) sh T out := by
  obtain ⟨r1, ⟨b1, b2, b3, b4, b5, b6, b7, b8⟩, r3⟩ := R
  rw [hw] at b3 b7
  refine ⟨r1, ⟨by rw [hr]; exact b1, rFr.hd (a := (m, d, vs, I)) rfl b2, by rw [hw']; exact ⟨he _ b3.1, b3.2⟩, b4, b5, b6, by rw [hw']; exact b7, b8⟩, by rw [hr]; exact r3⟩
theorem RXm.gotE (R : RXm s0 s h code Fs fu f ((m, d, vs, (0, [x], j) :: (6, l ++ [y], k) :: I) :: G) sh T out) (hk : (k + 1 + 1) / 2 = (k + 1) / 2) : RXm s0 s h code Fs fu f ((m', d', vs, (6, x :: (l ++ [y]), k + 1) :: I) :: G) sh T out := by
  refine R.sw ?_ ((wStk_cons (m' := m) (d' := d) (by show ¬ ((0 : Nat) = 2 ∨ (0 : Nat) = 3 ∨ (0 : Nat) = 6 ∨ (0 : Nat) = 8); decide)).trans (wStk_w (m' := m) (d' := d) (Or.inr (Or.inr (Or.inl rfl))))) (wStk_w (m' := m) (d' := d) (Or.inr (Or.inr (Or.inl rfl)))) (fun v H => ⟨fun q => (by cases q), fun q => (by cases q), fun _ => ?_⟩)
  · rw [rStk_cons (m' := m) (d' := d), rStk_cons (m := m) (d := d) (m' := m) (d' := d), rStk_cons (m := m) (d := d) (m' := m) (d' := d)]
    show (x :: (l ++ [y])).dropLast ++ _ = [x] ++ ((l ++ [y]).dropLast ++ _)
    rw [← List.cons_append, List.dropLast_concat, List.dropLast_concat]
    rfl
  · obtain ⟨a1, a2, a3, a4⟩ := H.2.2 (Or.inl rfl)
    refine ⟨a1, ?_, a3, fun rs y' e => ?_⟩
    · rw [a2]
      show Int32.ofNat ((k + 1) / 2) = Int32.ofNat ((k + 1 + 1) / 2)
      rw [hk]
    · have e : (x :: l) ++ [y] = rs ++ [y'] := e
      have := List.append_inj' e rfl
      have e2 : y = y' := by simpa using this.2
      rw [← e2]
      exact a4 l y rfl
theorem RXm.gotF (R : RXm s0 s h code Fs fu f ((m, d, vs, (0, [x], j) :: (8, [y], k) :: (7, [c], j') :: I) :: G) sh T out) (hk : (k + 1 + 1) / 2 = (k + 1) / 2) : RXm s0 s h code Fs fu f ((m', d', vs, (8, [y], k + 1) :: (0, [x], 0) :: I) :: G) sh T out := by
  refine R.sw (W := wStk ((m, d, vs, I) :: G)) ?_ ((wStk_cons (m' := m) (d' := d) (by show ¬ ((0 : Nat) = 2 ∨ (0 : Nat) = 3 ∨ (0 : Nat) = 6 ∨ (0 : Nat) = 8); decide)).trans ((wStk_w (m' := m) (d' := d) (Or.inr (Or.inr (Or.inr rfl)))).trans (by rw [wStk_cons (m := m) (d := d) (m' := m) (d' := d) (by show ¬ ((7 : Nat) = 2 ∨ (7 : Nat) = 3 ∨ (7 : Nat) = 6 ∨ (7 : Nat) = 8); decide)]))) ((wStk_w (m' := m) (d' := d) (Or.inr (Or.inr (Or.inr rfl)))).trans (by rw [wStk_cons (m := m) (d := d) (m' := m) (d' := d) (by show ¬ ((0 : Nat) = 2 ∨ (0 : Nat) = 3 ∨ (0 : Nat) = 6 ∨ (0 : Nat) = 8); decide)])) (fun v H => ⟨fun q => (by cases q), fun q => (by cases q), fun _ => ?_⟩)
  · rw [rStk_cons (m' := m) (d' := d), rStk_cons (m := m) (d := d) (m' := m) (d' := d), rStk_cons (m := m) (d := d) (m' := m) (d' := d), rStk_cons (m := m) (d := d) (m' := m) (d' := d), rStk_cons (m := m) (d := d) (m' := m) (d' := d)]
    rfl
  · obtain ⟨a1, a2, a3, a4⟩ := H.2.2 (Or.inr rfl)
    refine ⟨a1, ?_, fun q => (by cases q), fun rs y' e => a4 rs y' e⟩
    rw [a2]
    show Int32.ofNat ((k + 1) / 2) = Int32.ofNat ((k + 1 + 1) / 2)
    rw [hk]
end GOT
