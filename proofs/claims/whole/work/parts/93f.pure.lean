/-! ===== PURE: statements (5): assignments ===== -/
section ASG
variable {N : Nat} {X : Nat → Option zz_C} {t t' t1 t2 : cS} {s s' s1 s2 : mS} {b : Nat → Nat} {n p e i op D D' : Nat} {code code1 : List Ins} {vs : List (List Nat)} {cl : List Cn} {W : List Wt} {cu cu' : List Nat} {fs : Nat × Nat × Nat} {Bs : List (Int32 × Int32 × Int32)}
theorem r_setcF {m : Nat} {v : Int32} (hm : ob0 e + 0 ≤ m ∧ m < ob0 e + 4000) : tl e s (mA s 26 (upd (s.2.2.1 26) m v)) := by
  refine ⟨rfl, rfl, ⟨fun _ _ => rfl, fun _ _ => rfl, fun q r => if_neg (by omega), fun _ _ => rfl, fun q y r1 r2 => ?_, Kd.kp rfl (fun q z => if_neg (by omega)) rfl⟩⟩
  show (if q = 26 then upd (s.2.2.1 26) m v else s.2.2.1 q) y = _
  split
  · rename_i z
    rw [upd_n (by omega), z]
  · rfl
/-- the end of an assignment behind a fault -/
theorem r_136F {m : Nat} {x1 x2 x3 x4 : Int32} (h : fU e m s) : ∃ s', mf_280_136 N x1 x2 x3 x4 s = some (s', none) ∧ tl e s s' := by
  obtain ⟨s1, a1, a2, a3⟩ := r_orderF (N := N) (x1 := Int32.ofNat 13) (x2 := x2) (x3 := x4) (x4 := x3) h
  have hm := h.2.1
  have ho : ob0 e ≤ 4000 := by unfold ob0; omega
  refine ⟨mA s1 26 (upd (s1.2.2.1 26) (ob0 e + m) x1), ?_, a2.tr (r_setcF (by omega))⟩
  generalize ob0 e = o at *
  unfold mf_280_136
  rw [l32_13, a1]
  show mf_280_146 N x1 (Int32.ofNat (o + m)) s1 = _
  unfold mf_280_146
  simp (disch := omega) only [ev_S, ev_P, ↓reduceIte, Nat.reduceEqDiff, Nat.reduceLeDiff, Nat.reduceAdd, Nat.reduceMul, Nat.reduceSub, reduceCtorEq, l32_0, l32_1, l32_2, l32_3, l32_4, l32_5, l32_6, l32_7, l32_8, l32_9, l32_10, l32_11, l32_12, l32_13, l32_14, l32_15, l32_16, l32_17, l32_18, l32_19, l32_20, l32_21, l32_22, l32_23, l32_24, l32_25, l32_26, l32_27, l32_28, l32_29, l32_33, l32_40, l32_41, l32_44, l32_45, l32_59, l32_61, l32_91, l32_93, l32_123, l32_125, l32_8000]
theorem r_119F {m : Nat} {x1 x2 x3 x4 : Int32} (hN : 170000 ≤ N) (h : fU e m s) : ∃ s', mf_280_119 N x1 x2 x3 x4 s = some (s', none) ∧ tl e s s' := by
  obtain ⟨x, hx1, hx2, h9⟩ := h.1
  obtain ⟨s', a1, a2⟩ := r_136F (N := N) (x1 := x1) (x2 := x2) (x3 := x3) (x4 := x4) (h.e44 (x := 0))
  refine ⟨s', ?_, tl_44.tr a2⟩
  unfold mf_280_119
  rw [r_signF h9 ⟨hx1, hx2⟩]
  show mo_bv (mf_285 N 0 s) _ = _
  rw [r_exprF hN h9 ⟨hx1, hx2⟩]
  show mo_bv (mf_267 N 59 (mI s 44 0)) _ = _
  rw [r_signF (s := mI s 44 0) h9 ⟨hx1, hx2⟩]
  exact a1
/-- = E ; behind indices -/
theorem p_aend {j r : Nat} {x q y : Int32} (hN : 170000 ≤ N) (hX : oX N X) (hY : oY X) (hj : j = 1 ∨ j = 2) (hy : j = 2 → ¬ y = -Int32.ofNat 1) (hr : r < 8 + vs.length) (hD1 : 1 ≤ D) (h : PE b n p e i op D code code vs cl W (List.replicate j 0 ++ 5 :: cu) fs t s) (hwn : rWn s) (hb : rB s Bs) : SR b n p e i op (D - 1) code cu fs t s (cf_180_77 N X x (cv r) (Int32.ofNat j) q y t) (mf_280_119 N x (Int32.ofNat r) q (if j = 1 then -Int32.ofNat 1 else y) s) := by
  have hR : cf_180_77 N X x (cv r) (Int32.ofNat j) q y t = cH N X 61 59 (fun g => cf_180_94 N X x (cv r) (Int32.ofNat j) q y g) t := rfl
  have hM : mf_280_119 N x (Int32.ofNat r) q (if j = 1 then -Int32.ofNat 1 else y) s = rH N 59 (mf_267 N (Int32.ofNat 61) s) (fun s => mf_280_136 N x (Int32.ofNat r) q (if j = 1 then -Int32.ofNat 1 else y) s) := rfl
  rw [hR, hM]
  rcases p_eqs hN hX hY h hwn with ⟨t2, s2, i2, seg, vs2, cl2, b1, b2, b3, bv, b4, b5⟩ | ⟨t2, s2, b1, b2, b3, b4⟩
  · have hP : kP t2 2 1 = some p := b4.2.1.1
    have hp : (p = 12 ∨ p = 21) = True := eq_true b4.2.1.2.1
    have hcu : (0 :: (List.replicate j 0 ++ 5 :: cu)) = List.replicate (j + 1) 0 ++ 5 :: cu := rfl
    rw [hcu] at b4
    obtain ⟨u1, u2, u3, z1, z2, c1, c1', c2, c2', c3, o1, o2, o3, o4⟩ := b4.put (N := N) (X := X) (D' := D - 1) (r := r) (x := x) (y := y) (q := q) hj hy (by omega) (by omega)
    refine Or.inl ⟨u3, z2, i2, seg ++ [_], vs2, cl2, [], ?_, ?_, by omega, by rw [← List.append_assoc]; exact o3, b5.tr o4⟩
    · rw [b1]
      rcases hj with z | z <;> subst z
      · rw [if_pos rfl] at c2
        unfold cf_180_94 cf_180_98 cf_180_108 cf_180_118 cf_180_125 cf_180_132 cf_180_133 cf_180_143
        simp (disch := omega) only [ev_S, ev_C, ↓reduceIte, Nat.reduceEqDiff, Nat.reduceLeDiff, Nat.reduceAdd, Nat.reduceMul, Nat.reduceSub, reduceCtorEq, l32_0, l32_1, l32_2, l32_3, l32_4, l32_5, l32_6, l32_7, l32_8, l32_9, l32_10, l32_11, l32_12, l32_13, l32_14, l32_15, l32_16, l32_17, l32_18, l32_19, l32_20, l32_21, l32_22, l32_23, l32_24, l32_25, l32_26, l32_27, l32_28, l32_29, l32_33, l32_40, l32_41, l32_44, l32_45, l32_59, l32_61, l32_91, l32_93, l32_123, l32_125, hP, hp, c1, c1', c2, c2', c3]
      · rw [if_neg (by decide)] at c2
        unfold cf_180_94 cf_180_98 cf_180_108 cf_180_123 cf_180_125 cf_180_132 cf_180_133 cf_180_143
        simp (disch := omega) only [ev_S, ev_C, ↓reduceIte, Nat.reduceEqDiff, Nat.reduceLeDiff, Nat.reduceAdd, Nat.reduceMul, Nat.reduceSub, reduceCtorEq, l32_0, l32_1, l32_2, l32_3, l32_4, l32_5, l32_6, l32_7, l32_8, l32_9, l32_10, l32_11, l32_12, l32_13, l32_14, l32_15, l32_16, l32_17, l32_18, l32_19, l32_20, l32_21, l32_22, l32_23, l32_24, l32_25, l32_26, l32_27, l32_28, l32_29, l32_33, l32_40, l32_41, l32_44, l32_45, l32_59, l32_61, l32_91, l32_93, l32_123, l32_125, hP, hp, c1, c1', c2, c2', c3]
    · rw [b2]
      have hrl := b4.rle
      have ho : ob0 e ≤ 4000 := by unfold ob0; omega
      unfold mf_280_136
      rw [l32_13, o1]
      rw [o2]
      show mf_280_146 N x (Int32.ofNat (ob0 e + rl (code ++ seg))) z1 = _
      have hlt8 : ob0 e + rl (code ++ seg) < 8000 := by omega
      generalize ob0 e + rl (code ++ seg) = o at *
      unfold mf_280_146
      simp (disch := omega) only [ev_S, ev_P, ↓reduceIte, Nat.reduceEqDiff, Nat.reduceLeDiff, Nat.reduceAdd, Nat.reduceMul, Nat.reduceSub, reduceCtorEq, l32_0, l32_1, l32_2, l32_3, l32_4, l32_5, l32_6, l32_7, l32_8, l32_9, l32_10, l32_11, l32_12, l32_13, l32_14, l32_15, l32_16, l32_17, l32_18, l32_19, l32_20, l32_21, l32_22, l32_23, l32_24, l32_25, l32_26, l32_27, l32_28, l32_29, l32_33, l32_40, l32_41, l32_44, l32_45, l32_59, l32_61, l32_91, l32_93, l32_123, l32_125, l32_8000]
  · obtain ⟨m, m1, m2⟩ := h.fU hb b3 b4
    obtain ⟨s3, c1, c2⟩ := r_136F (N := N) (x1 := x) (x2 := Int32.ofNat r) (x3 := q) (x4 := if j = 1 then -Int32.ofNat 1 else y) m2
    refine Or.inr ⟨t2, s3, b1 _, ?_, b3.tl c2, b4.S.tl c2⟩
    rw [b2]
    exact c1
theorem SR.pre' {i0 : Nat} {code0 seg0 : List Ins} {t0 : cS} {s0 : mS} {R : kO} {M : mO} (f : FR p e t0 t s0 s) (hi : i0 ≤ i) (hc : code = code0 ++ seg0) (h : SR b n p e i op D code cu fs t s R M) : SR b n p e i0 op D code0 cu fs t0 s0 R M := by
  subst hc
  rcases h with ⟨t', s', i', seg, vs', cl', W', a1, a2, a3, a4, a5⟩ | ⟨t', s', a1, a2, a3, a4⟩
  · exact Or.inl ⟨t', s', i', seg0 ++ seg, vs', cl', W', a1, a2, by omega, by rw [← List.append_assoc]; exact a4, f.tr a5⟩
  · exact Or.inr ⟨t', s', a1, a2, a3, f.S.pre a4⟩
theorem SR.dn {R : kO} {M : mO} (hD : D' ≤ D) (h : SR b n p e i op D code cu fs t s R M) : SR b n p e i op D' code cu fs t s R M := by
  rcases h with ⟨t', s', i', seg, vs', cl', W', a1, a2, a3, a4, a5⟩ | h
  · exact Or.inl ⟨t', s', i', seg, vs', cl', W', a1, a2, a3, a4.dn hD, a5⟩
  · exact Or.inr h
/-- a variable, its indices, =, E, ; -/
theorem p_asg (hN : 170000 ≤ N) (hX : oX N X) (hY : oY X) (h : PE b n p e i op D code code vs cl W (5 :: cu) fs t s) (hwn : rWn s) (hb : rB s Bs) : SR b n p e i op (D + 1) code cu fs t s (cf_180 N X t) (mf_280 N s) := by
  obtain ⟨hi, e5, e6, e7, hkk, ho, he, hlt, hll⟩ := h.1.now
  have h6 : s.1 6 = Int32.ofNat (TL b n)[i].2.2.2.1 := hkk.1
  generalize hpl : (TL b n)[i].2.2.2.1 = pl at *
  rcases h.nam (N := N) (X := X) hN with ⟨r, t1, s1, vs1, a1, a2, a3, a4, a5, a6⟩ | ⟨t1, s1, a1, a2, a3, a4, a5⟩
  · obtain ⟨hi1, e51, e61, e71, hkk1, ho1, he1, hlt1, hll1⟩ := a4.1.now
    have h61 : s1.1 6 = Int32.ofNat (TL b n)[i + 1].2.2.2.1 := hkk1.1
    have h91 : s1.1 9 = Int32.ofNat 0 := a4.1.2.2.2.2.2.2.2.2.2
    have w1 : rWn s1 := hwn.kp a6.2
    have rb1 : rB s1 Bs := hb.kp a6.2
    have g1 := r_isSign (N := N) (c := 91) hkk1 (by decide) (by decide)
    have eL : ∀ Q x1 x2 x3 x4 x5 t, cf_180_L12 N X (Q + 1) 0 x1 x2 x3 x4 x5 t = cf_180_28 N X (cf_180_L12 N X Q) x1 x2 x3 x4 x5 t := fun _ _ _ _ _ _ _ => rfl
    have hR : cf_180 N X t = cf_180_28 N X (cf_180_L12 N X (N - 3 + 2)) (Int32.ofNat pl) (cv r) (Int32.ofNat 0) (Int32.ofNat (TL b n)[i + 1].2.2.2.1) (Int32.ofNat (TL b n)[i + 1].2.2.2.1) t1 := by
      have e1 : cf_180 N X t = cf_180_L12 N X N 0 (Int32.ofNat pl) (cv r) (Int32.ofNat 0) (Int32.ofNat (TL b n)[i + 1].2.2.2.1) (Int32.ofNat (TL b n)[i + 1].2.2.2.1) t1 := by
        unfold cf_180 cf_180_0 cf_180_7 cf_180_12 cf_180_22
        simp (disch := omega) only [ev_S, ev_C, ↓reduceIte, Nat.reduceEqDiff, Nat.reduceLeDiff, Nat.reduceAdd, Nat.reduceMul, Nat.reduceSub, reduceCtorEq, l32_0, l32_1, l32_2, l32_3, l32_4, l32_5, l32_6, l32_7, l32_8, l32_9, l32_10, l32_11, l32_12, l32_13, l32_14, l32_15, l32_16, l32_17, l32_18, l32_19, l32_20, l32_21, l32_22, l32_23, l32_24, l32_25, l32_26, l32_27, l32_28, l32_29, l32_33, l32_40, l32_41, l32_44, l32_45, l32_59, l32_61, l32_91, l32_93, l32_123, l32_125, c_placeNow, e6, a1, e61]
      rw [e1, ← eL, show N - 3 + 2 + 1 = N by omega]
    have hM : mf_280 N s = mo_bi (mf_263 N (Int32.ofNat 91) s1) (fun s2 y => mf_280_24 N (Int32.ofNat pl) (Int32.ofNat r) y s2) := by
      unfold mf_280 mf_280_0 mf_280_9
      simp (disch := omega) only [ev_S, ev_P, ↓reduceIte, Nat.reduceEqDiff, Nat.reduceLeDiff, Nat.reduceAdd, Nat.reduceMul, Nat.reduceSub, reduceCtorEq, l32_0, l32_1, l32_2, l32_3, l32_4, l32_5, l32_6, l32_7, l32_8, l32_9, l32_10, l32_11, l32_12, l32_13, l32_14, l32_15, l32_16, l32_17, l32_18, l32_19, l32_20, l32_21, l32_22, l32_23, l32_24, l32_25, l32_26, l32_27, l32_28, l32_29, l32_33, l32_40, l32_41, l32_44, l32_45, l32_59, l32_61, l32_91, l32_93, l32_123, l32_125, a2, h6, h91]
      rfl
    rw [hR, hM, g1]
    have hci : ck (TL b n)[i + 1] = 91 ↔ (TL b n)[i + 1].1 = 91 := ck_sg (by decide)
    by_cases z : (TL b n)[i + 1].1 = 91
    · rw [if_pos z]
      rw [hci.mpr z] at e51
      have hR2 : cf_180_28 N X (cf_180_L12 N X (N - 3 + 2)) (Int32.ofNat pl) (cv r) (Int32.ofNat 0) (Int32.ofNat (TL b n)[i + 1].2.2.2.1) (Int32.ofNat (TL b n)[i + 1].2.2.2.1) t1 = cH N X 91 93 (fun g => cf_180_28 N X (cf_180_L12 N X (N - 3 + 1)) (Int32.ofNat pl) (cv r) (Int32.ofNat 1) (Int32.ofNat (TL b n)[i + 1].2.2.2.1) (Int32.ofNat (TL b n)[i + 1].2.2.2.1) g) t1 := by
        unfold cf_180_28 cf_180_33 cf_180_40 cf_180_45
        simp (disch := omega) only [ev_S, ev_C, ↓reduceIte, Nat.reduceEqDiff, Nat.reduceLeDiff, Nat.reduceAdd, Nat.reduceMul, Nat.reduceSub, reduceCtorEq, l32_0, l32_1, l32_2, l32_3, l32_4, l32_5, l32_6, l32_7, l32_8, l32_9, l32_10, l32_11, l32_12, l32_13, l32_14, l32_15, l32_16, l32_17, l32_18, l32_19, l32_20, l32_21, l32_22, l32_23, l32_24, l32_25, l32_26, l32_27, l32_28, l32_29, l32_33, l32_40, l32_41, l32_44, l32_45, l32_59, l32_61, l32_91, l32_93, l32_123, l32_125, c_kindNow, e51, c_placeNow, e61]
        rfl
      have hM2 : mo_bi (some (s1, some (.int 1))) (fun s2 y => mf_280_24 N (Int32.ofNat pl) (Int32.ofNat r) y s2) = rH N 93 (mf_268 N (Int32.ofNat 91) s1) (fun s => mf_280_80 N (Int32.ofNat pl) (Int32.ofNat r) (Int32.ofNat (TL b n)[i + 1].2.2.2.1) (-Int32.ofNat 1) s) := by
        show mf_280_24 N (Int32.ofNat pl) (Int32.ofNat r) 1 s1 = _
        unfold mf_280_24 mf_280_55
        simp (disch := omega) only [ev_S, ev_P, ↓reduceIte, Nat.reduceEqDiff, Nat.reduceLeDiff, Nat.reduceAdd, Nat.reduceMul, Nat.reduceSub, reduceCtorEq, l32_0, l32_1, l32_2, l32_3, l32_4, l32_5, l32_6, l32_7, l32_8, l32_9, l32_10, l32_11, l32_12, l32_13, l32_14, l32_15, l32_16, l32_17, l32_18, l32_19, l32_20, l32_21, l32_22, l32_23, l32_24, l32_25, l32_26, l32_27, l32_28, l32_29, l32_33, l32_40, l32_41, l32_44, l32_45, l32_59, l32_61, l32_91, l32_93, l32_123, l32_125, h61]
        rfl
      rw [hR2, hM2]
      rcases p_brk (c1 := 91) (c2 := 93) hN hX hY (by omega) a4 w1 with ⟨t2, s2, i2, seg, vs2, cl2, b1, b2, b3, bv, b4, b5⟩ | ⟨t2, s2, b1, b2, b3, b4⟩
      · rw [b1, b2]
        refine SR.pre' (i := i2) (code := code ++ seg) (seg0 := seg) (a6.tr b5) (by omega) rfl ?_
        have w2 : rWn s2 := w1.kp b5.2
        have rb2 : rB s2 Bs := rb1.kp b5.2
        obtain ⟨hi2, e52, e62, e72, hkk2, ho2, he2, hlt2, hll2⟩ := b4.1.now
        have h62 : s2.1 6 = Int32.ofNat (TL b n)[i2].2.2.2.1 := hkk2.1
        have h92 : s2.1 9 = Int32.ofNat 0 := b4.1.2.2.2.2.2.2.2.2.2
        have g2 := r_isSign (N := N) (c := 91) hkk2 (by decide) (by decide)
        have hci2 : ck (TL b n)[i2] = 91 ↔ (TL b n)[i2].1 = 91 := ck_sg (by decide)
        have hM3 : mf_280_80 N (Int32.ofNat pl) (Int32.ofNat r) (Int32.ofNat (TL b n)[i + 1].2.2.2.1) (-Int32.ofNat 1) s2 = mo_bi (mf_263 N (Int32.ofNat 91) s2) (fun s3 y => mf_280_93 N (Int32.ofNat pl) (Int32.ofNat r) (Int32.ofNat (TL b n)[i + 1].2.2.2.1) (-Int32.ofNat 1) y s3) := by
          unfold mf_280_80 mf_280_87
          simp (disch := omega) only [ev_S, ev_P, ↓reduceIte, Nat.reduceEqDiff, Nat.reduceLeDiff, Nat.reduceAdd, Nat.reduceMul, Nat.reduceSub, reduceCtorEq, l32_0, l32_1, l32_2, l32_3, l32_4, l32_5, l32_6, l32_7, l32_8, l32_9, l32_10, l32_11, l32_12, l32_13, l32_14, l32_15, l32_16, l32_17, l32_18, l32_19, l32_20, l32_21, l32_22, l32_23, l32_24, l32_25, l32_26, l32_27, l32_28, l32_29, l32_33, l32_40, l32_41, l32_44, l32_45, l32_59, l32_61, l32_91, l32_93, l32_123, l32_125, h92]
        rw [hM3, g2]
        by_cases z2 : (TL b n)[i2].1 = 91
        · rw [if_pos z2]
          rw [hci2.mpr z2] at e52
          have hR4 : cf_180_28 N X (cf_180_L12 N X (N - 3 + 1)) (Int32.ofNat pl) (cv r) (Int32.ofNat 1) (Int32.ofNat (TL b n)[i + 1].2.2.2.1) (Int32.ofNat (TL b n)[i + 1].2.2.2.1) t2 = cH N X 91 93 (fun g => cf_180_77 N X (Int32.ofNat pl) (cv r) (Int32.ofNat 2) (Int32.ofNat (TL b n)[i + 1].2.2.2.1) (Int32.ofNat (TL b n)[i2].2.2.2.1) g) t2 := by
            have e2 : ∀ g, cf_180_71 N X (cf_180_L12 N X (N - 3 + 1)) (Int32.ofNat pl) (cv r) (Int32.ofNat 1) (Int32.ofNat (TL b n)[i + 1].2.2.2.1) (Int32.ofNat (TL b n)[i2].2.2.2.1) g = cf_180_77 N X (Int32.ofNat pl) (cv r) (Int32.ofNat 2) (Int32.ofNat (TL b n)[i + 1].2.2.2.1) (Int32.ofNat (TL b n)[i2].2.2.2.1) g := fun g => by
              show cf_180_28 N X (cf_180_L12 N X (N - 3)) (Int32.ofNat pl) (cv r) (Int32.ofNat 1 + 1) (Int32.ofNat (TL b n)[i + 1].2.2.2.1) (Int32.ofNat (TL b n)[i2].2.2.2.1) g = _
              unfold cf_180_28
              simp (disch := omega) only [ev_S, ev_C, ↓reduceIte, Nat.reduceEqDiff, Nat.reduceLeDiff, Nat.reduceAdd, Nat.reduceMul, Nat.reduceSub, reduceCtorEq, l32_0, l32_1, l32_2, l32_3, l32_4, l32_5, l32_6, l32_7, l32_8, l32_9, l32_10, l32_11, l32_12, l32_13, l32_14, l32_15, l32_16, l32_17, l32_18, l32_19, l32_20, l32_21, l32_22, l32_23, l32_24, l32_25, l32_26, l32_27, l32_28, l32_29, l32_33, l32_40, l32_41, l32_44, l32_45, l32_59, l32_61, l32_91, l32_93, l32_123, l32_125]
            unfold cf_180_28 cf_180_33 cf_180_40 cf_180_45 cf_180_52 cf_180_60 cf_180_65
            simp (disch := omega) only [ev_S, ev_C, ↓reduceIte, Nat.reduceEqDiff, Nat.reduceLeDiff, Nat.reduceAdd, Nat.reduceMul, Nat.reduceSub, reduceCtorEq, l32_0, l32_1, l32_2, l32_3, l32_4, l32_5, l32_6, l32_7, l32_8, l32_9, l32_10, l32_11, l32_12, l32_13, l32_14, l32_15, l32_16, l32_17, l32_18, l32_19, l32_20, l32_21, l32_22, l32_23, l32_24, l32_25, l32_26, l32_27, l32_28, l32_29, l32_33, l32_40, l32_41, l32_44, l32_45, l32_59, l32_61, l32_91, l32_93, l32_123, l32_125, c_kindNow, e52, c_placeNow, e62, e2]
          have hM4 : mo_bi (some (s2, some (.int 1))) (fun s3 y => mf_280_93 N (Int32.ofNat pl) (Int32.ofNat r) (Int32.ofNat (TL b n)[i + 1].2.2.2.1) (-Int32.ofNat 1) y s3) = rH N 93 (mf_268 N (Int32.ofNat 91) s2) (fun s => mf_280_119 N (Int32.ofNat pl) (Int32.ofNat r) (Int32.ofNat (TL b n)[i + 1].2.2.2.1) (Int32.ofNat (TL b n)[i2].2.2.2.1) s) := by
            show mf_280_93 N (Int32.ofNat pl) (Int32.ofNat r) (Int32.ofNat (TL b n)[i + 1].2.2.2.1) (-Int32.ofNat 1) 1 s2 = _
            unfold mf_280_93 mf_280_96
            simp (disch := omega) only [ev_S, ev_P, ↓reduceIte, Nat.reduceEqDiff, Nat.reduceLeDiff, Nat.reduceAdd, Nat.reduceMul, Nat.reduceSub, reduceCtorEq, l32_0, l32_1, l32_2, l32_3, l32_4, l32_5, l32_6, l32_7, l32_8, l32_9, l32_10, l32_11, l32_12, l32_13, l32_14, l32_15, l32_16, l32_17, l32_18, l32_19, l32_20, l32_21, l32_22, l32_23, l32_24, l32_25, l32_26, l32_27, l32_28, l32_29, l32_33, l32_40, l32_41, l32_44, l32_45, l32_59, l32_61, l32_91, l32_93, l32_123, l32_125, h62]
            rfl
          rw [hR4, hM4]
          rcases p_brk (c1 := 91) (c2 := 93) hN hX hY (by omega) b4 w2 with ⟨t3, s3, i3, seg3, vs3, cl3, c1, c2, c3, cv3, c4, c5⟩ | ⟨t3, s3, c1, c2, c3, c4⟩
          · rw [c1, c2]
            refine SR.pre' (i := i3) (code := code ++ seg ++ seg3) (seg0 := seg3) c5 (by omega) rfl ?_
            have q := p_aend (x := Int32.ofNat pl) (q := Int32.ofNat (TL b n)[i + 1].2.2.2.1) (y := Int32.ofNat (TL b n)[i2].2.2.2.1) (j := 2) (r := r) (cu := cu) hN hX hY (Or.inr rfl) (fun _ => by have h1 := TL_at hi2; have h2 := b4.1.2.2.2.2.1; rw [ev_n5 (by omega)]; exact not_false) (by omega) (by omega) c4 (w2.kp c5.2) (rb2.kp c5.2)
            rw [if_neg (by decide)] at q
            exact q.dn (by omega)
          · obtain ⟨m, m1, m2⟩ := b4.fU rb2 c3 c4
            obtain ⟨s5, d1, d2⟩ := r_119F (N := N) (x1 := Int32.ofNat pl) (x2 := Int32.ofNat r) (x3 := Int32.ofNat (TL b n)[i + 1].2.2.2.1) (x4 := Int32.ofNat (TL b n)[i2].2.2.2.1) hN m2
            exact Or.inr ⟨t3, s5, c1 _, (c2 _).trans d1, c3.tl d2, c4.S.tl d2⟩
        · rw [if_neg z2]
          have z3 : ¬ ck (TL b n)[i2] = 91 := fun q => z2 (hci2.mp q)
          have hR4 : cf_180_28 N X (cf_180_L12 N X (N - 3 + 1)) (Int32.ofNat pl) (cv r) (Int32.ofNat 1) (Int32.ofNat (TL b n)[i + 1].2.2.2.1) (Int32.ofNat (TL b n)[i + 1].2.2.2.1) t2 = cf_180_77 N X (Int32.ofNat pl) (cv r) (Int32.ofNat 1) (Int32.ofNat (TL b n)[i + 1].2.2.2.1) (Int32.ofNat (TL b n)[i + 1].2.2.2.1) t2 := by
            unfold cf_180_28 cf_180_33 cf_180_40
            simp (disch := omega) only [ev_S, ev_C, ↓reduceIte, Nat.reduceEqDiff, Nat.reduceLeDiff, Nat.reduceAdd, Nat.reduceMul, Nat.reduceSub, reduceCtorEq, l32_0, l32_1, l32_2, l32_3, l32_4, l32_5, l32_6, l32_7, l32_8, l32_9, l32_10, l32_11, l32_12, l32_13, l32_14, l32_15, l32_16, l32_17, l32_18, l32_19, l32_20, l32_21, l32_22, l32_23, l32_24, l32_25, l32_26, l32_27, l32_28, l32_29, l32_33, l32_40, l32_41, l32_44, l32_45, l32_59, l32_61, l32_91, l32_93, l32_123, l32_125, c_kindNow, e52, z3, l32_91]
          have hM4 : mo_bi (some (s2, some (.int 0))) (fun s3 y => mf_280_93 N (Int32.ofNat pl) (Int32.ofNat r) (Int32.ofNat (TL b n)[i + 1].2.2.2.1) (-Int32.ofNat 1) y s3) = mf_280_119 N (Int32.ofNat pl) (Int32.ofNat r) (Int32.ofNat (TL b n)[i + 1].2.2.2.1) (-Int32.ofNat 1) s2 := rfl
          rw [hR4, hM4]
          have q := p_aend (x := Int32.ofNat pl) (q := Int32.ofNat (TL b n)[i + 1].2.2.2.1) (y := Int32.ofNat (TL b n)[i + 1].2.2.2.1) (j := 1) (r := r) (cu := cu) hN hX hY (Or.inl rfl) (fun z => by cases z) (by omega) (by omega) b4 w2 rb2
          rw [if_pos rfl] at q
          exact q.dn (by omega)
      · obtain ⟨m, m1, m2⟩ := a4.fU rb1 b3 b4
        obtain ⟨s5, d1, d2⟩ := r_119F (N := N) (x1 := Int32.ofNat pl) (x2 := Int32.ofNat r) (x3 := Int32.ofNat (TL b n)[i + 1].2.2.2.1) (x4 := -Int32.ofNat 1) hN m2
        refine Or.inr ⟨t2, s5, b1 _, ?_, b3.tl d2, (a6.pre b4).S.tl d2⟩
        rw [b2, ← d1]
        obtain ⟨x, y, v1, v2, v3, v4, v5, v6, v7⟩ := b3
        unfold mf_280_80
        simp (disch := omega) only [ev_S, ev_P, ↓reduceIte, Nat.reduceEqDiff, Nat.reduceLeDiff, Nat.reduceAdd, Nat.reduceMul, Nat.reduceSub, reduceCtorEq, l32_0, l32_1, l32_2, l32_3, l32_4, l32_5, l32_6, l32_7, l32_8, l32_9, l32_10, l32_11, l32_12, l32_13, l32_14, l32_15, l32_16, l32_17, l32_18, l32_19, l32_20, l32_21, l32_22, l32_23, l32_24, l32_25, l32_26, l32_27, l32_28, l32_29, l32_33, l32_40, l32_41, l32_44, l32_45, l32_59, l32_61, l32_91, l32_93, l32_123, l32_125, v6]
    · rw [if_neg z]
      have z3 : ¬ ck (TL b n)[i + 1] = 91 := fun q => z (hci.mp q)
      have hR2 : cf_180_28 N X (cf_180_L12 N X (N - 3 + 2)) (Int32.ofNat pl) (cv r) (Int32.ofNat 0) (Int32.ofNat (TL b n)[i + 1].2.2.2.1) (Int32.ofNat (TL b n)[i + 1].2.2.2.1) t1 = cH N X 61 59 (fun g => cf_180_94 N X (Int32.ofNat pl) (cv r) (Int32.ofNat 0) (Int32.ofNat (TL b n)[i + 1].2.2.2.1) (Int32.ofNat (TL b n)[i + 1].2.2.2.1) g) t1 := by
        unfold cf_180_28 cf_180_33 cf_180_40
        simp (disch := omega) only [ev_S, ev_C, ↓reduceIte, Nat.reduceEqDiff, Nat.reduceLeDiff, Nat.reduceAdd, Nat.reduceMul, Nat.reduceSub, reduceCtorEq, l32_0, l32_1, l32_2, l32_3, l32_4, l32_5, l32_6, l32_7, l32_8, l32_9, l32_10, l32_11, l32_12, l32_13, l32_14, l32_15, l32_16, l32_17, l32_18, l32_19, l32_20, l32_21, l32_22, l32_23, l32_24, l32_25, l32_26, l32_27, l32_28, l32_29, l32_33, l32_40, l32_41, l32_44, l32_45, l32_59, l32_61, l32_91, l32_93, l32_123, l32_125, c_kindNow, e51, z3, l32_91]
        rfl
      have hM2 : mo_bi (some (s1, some (.int 0))) (fun s2 y => mf_280_24 N (Int32.ofNat pl) (Int32.ofNat r) y s2) = rH N 59 (mf_267 N (Int32.ofNat 61) s1) (fun s => mo_bi (mf_271 N (Int32.ofNat 12) (Int32.ofNat r) (Int32.ofNat 0) (Int32.ofNat pl) s) (fun s y => some (s, none))) := rfl
      rw [hR2, hM2]
      rcases p_eqs hN hX hY a4 w1 with ⟨t2, s2, i2, seg, vs2, cl2, b1, b2, b3, bv, b4, b5⟩ | ⟨t2, s2, b1, b2, b3, b4⟩
      · have hP : kP t2 2 1 = some p := b4.2.1.1
        have hp : (p = 12 ∨ p = 21) = True := eq_true b4.2.1.2.1
        obtain ⟨t3, s3, c1, c2, c3, c4, c5⟩ := b4.bo (N := N) (X := X) (D' := D + 1) (cu' := cu) (c := (11, 0, r, 0, Int32.ofNat pl, 0, 0)) (k := Int32.ofNat 2) (a := cv r) (v := Int32.ofNat pl) (x1 := Int32.ofNat 12) (x2 := Int32.ofNat r) (x3 := Int32.ofNat 0) (x4 := Int32.ofNat pl) rfl rfl (Or.inr (Or.inl (Nat.zero_le _))) (eff_p1 (by simp)) (by unfold okI; simp; omega) (by omega) (Or.inl (Nat.le_refl 1))
        refine Or.inl ⟨t3, s3, i2, seg ++ [_], vs2, cl2, [], ?_, ?_, by omega, by rw [← List.append_assoc]; exact c3, a6.tr (b5.tr c4)⟩
        · rw [b1]
          unfold cf_180_94 cf_180_133 cf_180_143
          simp (disch := omega) only [ev_S, ev_C, ↓reduceIte, Nat.reduceEqDiff, Nat.reduceLeDiff, Nat.reduceAdd, Nat.reduceMul, Nat.reduceSub, reduceCtorEq, l32_0, l32_1, l32_2, l32_3, l32_4, l32_5, l32_6, l32_7, l32_8, l32_9, l32_10, l32_11, l32_12, l32_13, l32_14, l32_15, l32_16, l32_17, l32_18, l32_19, l32_20, l32_21, l32_22, l32_23, l32_24, l32_25, l32_26, l32_27, l32_28, l32_29, l32_33, l32_40, l32_41, l32_44, l32_45, l32_59, l32_61, l32_91, l32_93, l32_123, l32_125, hP, hp, c1]
        · rw [b2, c2]
          rfl
      · obtain ⟨m, m1, m2⟩ := a4.fU rb1 b3 b4
        obtain ⟨s3, c1, c2, c3⟩ := r_orderF (N := N) (x1 := Int32.ofNat 12) (x2 := Int32.ofNat r) (x3 := Int32.ofNat 0) (x4 := Int32.ofNat pl) m2
        refine Or.inr ⟨t2, s3, b1 _, ?_, b3.tl c2, (a6.pre b4).S.tl c2⟩
        rw [b2, c1]
        rfl
  · obtain ⟨x, y, v1, v2, v3, v4, v5, v6, v7⟩ := a3
    refine Or.inr ⟨t1, s1, ?_, ?_, ⟨x, y, v1, v2, v3, v4, v5, v6, v7⟩, a4.S⟩
    · unfold cf_180 cf_180_0 cf_180_7
      simp (disch := omega) only [ev_S, ev_C, ↓reduceIte, Nat.reduceEqDiff, Nat.reduceLeDiff, Nat.reduceAdd, Nat.reduceMul, Nat.reduceSub, reduceCtorEq, l32_0, l32_1, l32_2, l32_3, l32_4, l32_5, l32_6, l32_7, l32_8, l32_9, l32_10, l32_11, l32_12, l32_13, l32_14, l32_15, l32_16, l32_17, l32_18, l32_19, l32_20, l32_21, l32_22, l32_23, l32_24, l32_25, l32_26, l32_27, l32_28, l32_29, l32_33, l32_40, l32_41, l32_44, l32_45, l32_59, l32_61, l32_91, l32_93, l32_123, l32_125, c_placeNow, e6, a1]
      rfl
    · unfold mf_280 mf_280_0 mf_280_9 mf_280_17
      simp (disch := omega) only [ev_S, ev_P, ↓reduceIte, Nat.reduceEqDiff, Nat.reduceLeDiff, Nat.reduceAdd, Nat.reduceMul, Nat.reduceSub, reduceCtorEq, l32_0, l32_1, l32_2, l32_3, l32_4, l32_5, l32_6, l32_7, l32_8, l32_9, l32_10, l32_11, l32_12, l32_13, l32_14, l32_15, l32_16, l32_17, l32_18, l32_19, l32_20, l32_21, l32_22, l32_23, l32_24, l32_25, l32_26, l32_27, l32_28, l32_29, l32_33, l32_40, l32_41, l32_44, l32_45, l32_59, l32_61, l32_91, l32_93, l32_123, l32_125, a2, h6, v6]
end ASG
