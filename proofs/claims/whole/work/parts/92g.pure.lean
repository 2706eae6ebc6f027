/-! ===== PURE: each and fold (3) ===== -/
section WLN
variable {N : Nat} {X : Nat → Option zz_C} {t t' : cS} {s s' s0 s1 s2 : mS} {b : Nat → Nat} {n p e i i0 op D D' : Nat} {code code1 code2 fl : List Ins} {vs : List (List Nat)} {cl : List Cn} {W W' : List Wt} {cu cu' : List Nat} {fs : Nat × Nat × Nat} {al : Int32} {rk : Nat → List Value → cS → kO} {Z : List (Nat × Nat)} {ah : Option (Nat × Nat)}
/-- all E of each and fold -/
theorem p_wall {F r pl npl Q : Nat} {ls : List Nat} (hN : 170000 ≤ N) (hSX : SX N X b n p e F) (hr : r = 1 ∨ r = 2) (hls : okL ls ∧ ls.length ≤ 8) (hpl : pl < 2000 ∧ npl ≤ 1600) (ho1 : op + 1 ≤ 10) (hF : 10 * (10 - (op + 1)) + 10 ≤ F) (hWl : W.length + 1 ≤ 6 * (op + 1)) (h : PE b n p e i (op + 1) (D + 3) code code vs cl (W ++ [(8, 27 + r, 0, pl, Int64.ofNat (evB 27 ls), npl)]) cu fs t s) (hwn : rWn s) : RS N b n p e i op (D + 1) code W cu fs al t s (cf_193_66 N X (cf_S0 N X F) (cf_193_L12 N X (cf_S0 N X F) (Q + 2)) (Int32.ofNat r) (Int32.ofNat pl) (Int64.ofNat (evB 32 ls)) (Int32.ofNat npl) (Int32.ofNat 0) t) := by
  rcases hr with rfl | rfl
  · exact p_wlast (r := 1) (Q := Q + 1) hN hSX (Or.inl rfl) hls hpl ho1 hF hWl h hwn
  · have hHW : HW 0 (W ++ [(8, 27 + 2, 0, pl, Int64.ofNat (evB 27 ls), npl)]) := Or.inr ⟨W, _, rfl, Or.inl (by show 3 ≤ 8; omega)⟩
    have hne : al = 0 ∨ ¬ (W ++ [(8, 27 + 2, 0, pl, Int64.ofNat (evB 27 ls), npl)]) = [] := Or.inr (by simp)
    have hC : cf_193_66 N X (cf_S0 N X F) (cf_193_L12 N X (cf_S0 N X F) (Q + 2)) (Int32.ofNat 2) (Int32.ofNat pl) (Int64.ofNat (evB 32 ls)) (Int32.ofNat npl) (Int32.ofNat 0) t = ko_call 5 (cf_S0 N X F 186 [.int (Int32.ofNat 0)] t) (fun g1 v1 => co_v v1 (ko_call 5 (cf_201 N X (Int32.ofNat 44) g1) (fun g2 v2 => co_v v2 (cf_193_66 N X (cf_S0 N X F) (cf_193_L12 N X (cf_S0 N X F) (Q + 1)) (Int32.ofNat 2) (Int32.ofNat pl) (Int64.ofNat (evB 32 ls)) (Int32.ofNat npl) (Int32.ofNat (2 - 1)) g2)))) := by
      have eL : ∀ x1 x2 x3 x5 x6 t, cf_193_L12 N X (cf_S0 N X F) (Q + 2) 0 x1 x2 x3 x5 x6 t = cf_193_54 N X (cf_S0 N X F) (cf_193_L12 N X (cf_S0 N X F) (Q + 1)) x1 x2 x3 x5 x6 t := fun _ _ _ _ _ _ => rfl
      show ko_call 5 (cf_S0 N X F 186 [.int (Int32.ofNat 0)] t) (fun g1 v1 => co_v v1 (cf_193_71 N X (cf_S0 N X F) (cf_193_L12 N X (cf_S0 N X F) (Q + 2)) (Int32.ofNat 2) (Int32.ofNat pl) (Int64.ofNat (evB 32 ls)) (Int32.ofNat npl) (Int32.ofNat 0) g1)) = _
      unfold cf_193_71
      simp only [eL]
      unfold cf_193_54 cf_193_60
      simp (disch := omega) only [ev_S, ev_C, ↓reduceIte, Nat.reduceEqDiff, Nat.reduceLeDiff, Nat.reduceAdd, Nat.reduceMul, Nat.reduceSub, reduceCtorEq, l32_0, l32_1, l32_2, l32_3, l32_4, l32_5, l32_6, l32_7, l32_8, l32_9, l32_10, l32_11, l32_12, l32_13, l32_14, l32_15, l32_16, l32_17, l32_18, l32_19, l32_20, l32_21, l32_22, l32_23, l32_24, l32_25, l32_26, l32_27, l32_28, l32_29, l32_33, l32_40, l32_41, l32_44, l32_45, l32_59, l32_61, l32_91, l32_93, l32_123, l32_125]
    rw [hC]
    rcases hSX 0 i (op + 1) (D + 3) code vs cl _ cu fs al t s (by decide) h hwn hHW (by rw [List.length_append]; exact hWl) hne hF (by omega) with ⟨t4, s4, k4, i4, seg4, code4, vs4, cl4, Z4, ah4, x1, x2, x3, x4, x5, x6, x7, x8, x9, x10⟩ | ⟨t4, s4, k4, x1, x2, x3, x4, x5⟩
    · rw [x1]
      obtain ⟨hi4, -⟩ := x5.1.now
      obtain ⟨s5, d1, d2, d3⟩ := PE.flu (N := N) (al := al) hN x5 x6 x7 (fun z hh => ⟨(x8 z hh).1, (x8 z hh).2.2⟩) x9 hHW hne
      obtain ⟨s6, g1, g2, g3, g4⟩ := PE.e1w (N := N) d2 rfl (by show 27 + 2 = 28 ∨ 27 + 2 = 29; omega) (by show 0 < 2000; omega)
      have g3 := g3 ⟨rfl, rfl⟩
      have hLL : ∀ f, LL N (f + (k4 + 1)) al (Int32.ofNat 0) s = mo_bi (mo_bv (mf_267 N (Int32.ofNat 44) s6) (fun s2 => some (s2, some (.int (Int32.ofNat 0))))) (fun s1 y => LL N f al y s1) := fun f => by
        rw [show f + (k4 + 1) = (f + 1) + k4 by omega, x4, d1 f, L215 d2.2.2.2.2.1, g3]
      have hall : FR p e t t4 s s6 := x10.tr (d3.tr g2)
      show RS N b n p e i op (D + 1) code W cu fs al t s (ko_call 5 (cf_201 N X (Int32.ofNat 44) t4) _)
      rcases g1.sgn (N := N) (X := X) (c := 44) hN (by omega) (fun z => by omega) with ⟨t7, s7, y1, y2, y3, y4, y5, y6⟩ | ⟨t7, s7, y1, y2, y3, y4, y5⟩
      · rw [if_neg (by omega)] at y4
        have w7 : rWn s7 := hwn.kp (hall.tr y5).2
        have hL2 : ∀ f, LL N (f + (k4 + 1)) al (Int32.ofNat 0) s = LL N f al (Int32.ofNat 0) s7 := fun f => by
          rw [hLL, y2]
          rfl
        rw [y1]
        show RS N b n p e i op (D + 1) code W cu fs al t s (cf_193_66 N X (cf_S0 N X F) (cf_193_L12 N X (cf_S0 N X F) (Q + 1)) (Int32.ofNat 2) (Int32.ofNat pl) (Int64.ofNat (evB 32 ls)) (Int32.ofNat npl) (Int32.ofNat (2 - 1)) t7)
        rcases p_wlast (r := 2) (Q := Q) (al := al) (cu := cu) (D := D) hN hSX (Or.inr rfl) hls hpl ho1 hF hWl (y4.dn (by omega)) w7 with ⟨t8, s8, k8, i8, seg8, vs8, cl8, z1, z2, z3, z4, z5, z6⟩ | ⟨t8, s8, k8, z1, z2, z3, z4, z5⟩
        · refine Or.inl ⟨t8, s8, k8 + (k4 + 1), i8, seg4 ++ seg8, vs8, cl8, z1, by omega, by omega, fun f => ?_, by rw [← List.append_assoc]; exact z5, (hall.tr y5).tr z6⟩
          rw [← Nat.add_assoc, hL2]
          exact z4 f
        · refine Or.inr ⟨t8, s8, k8 + (k4 + 1), z1, by omega, fun f => ?_, z4, (hall.tr y5).pre z5⟩
          rw [← Nat.add_assoc, hL2]
          exact z3 f
      · obtain ⟨x, y, v1, v2, v3, v4, v5, v6, v7⟩ := y3
        refine Or.inr ⟨t7, s7, k4 + 2, by rw [y1]; rfl, by omega, fun f => ?_, ⟨x, y, v1, v2, v3, v4, v5, v6, v7⟩, hall.pre y4⟩
        rw [show f + (k4 + 2) = (f + 1) + (k4 + 1) by omega, hLL, y2]
        exact LL_f (N := N) v6 ⟨v1, v2⟩
    · exact Or.inr ⟨t4, s4, k4, by rw [x1]; rfl, x2, x3, x4, x5⟩
/-- each and fold -/
theorem p_over {F r : Nat} (hN : 170000 ≤ N) (hX : oX N X) (hY : oY X) (hSX : SX N X b n p e F) (h : PE b n p e i op D code code vs cl W cu fs t s) (hwn : rWn s) (hF : 10 * (10 - op) ≤ F) (hWl : W.length ≤ 6 * op + 5) (hr : r = 1 ∨ r = 2) (hk : ∀ hi : i < (TL b n).length, (TL b n)[i].1 = 3 ∧ wix (TL b n)[i].2.2.1 = some (38 + r)) : RS N b n p e i op (D + 1) code W cu fs al t s (cf_192 N X (cf_S0 N X (F + 1)) (zz_out + (38 + r + 1)) t) := by
  obtain ⟨hi, e5, e6, e7, hkk, ho, he, hlt, hll⟩ := h.1.now
  obtain ⟨-, -, hcv, -⟩ := c_word (N := N) (X := X) hX h.1 hk
  obtain ⟨k1, k2⟩ := hk hi
  have h9 : s.1 9 = Int32.ofNat 0 := h.1.2.2.2.2.2.2.2.2.2
  have hop := h.1.2.2.2.1
  have hn : n ≤ 1600 := h.1.2.2.2.2.1
  have hst := st_word hN h.1.2.2.2.2.2.2.2.1 hkk k1 k2 (by omega)
  rw [if_pos (by omega)] at hst
  obtain ⟨y1, y2, y3⟩ := hY (38 + r) (by omega)
  have hwhi : 1 ≤ whi (38 + r) ∧ whi (38 + r) ≤ 6 := by
    rcases hr with z | z <;> subst z <;> decide
  have hff : cf_202 N X (Int32.ofNat 1) (Int32.ofNat 2) t = some (t, .inl none) := c_fine
  have hC : ∀ t1, cf_46 N X t = some (t1, .inl none) → cf_192 N X (cf_S0 N X (F + 1)) (zz_out + (38 + r + 1)) t = ko_call 5 (cf_193 N X (cf_S0 N X F) (Int32.ofNat r) (Int32.ofNat (TL b n)[i].2.2.2.1) t1) (fun g1 v1 => co_v v1 (some (g1, .inl none))) := fun t1 a1 => by
    have hiB : cf_249 N X (zz_out + (38 + r + 1)) t = some (t, .inl (some (.int (Int32.ofNat 1)))) := by
      unfold cf_249 cf_249_0 cf_249_7 cf_249_12
      simp (disch := omega) only [ev_S, ev_C, ↓reduceIte, Nat.reduceEqDiff, Nat.reduceLeDiff, Nat.reduceAdd, Nat.reduceMul, Nat.reduceSub, reduceCtorEq, l32_0, l32_1, l32_2, l32_3, l32_4, l32_5, l32_6, l32_7, l32_8, l32_9, l32_10, l32_11, l32_12, l32_13, l32_14, l32_15, l32_16, l32_17, l32_18, l32_19, l32_20, l32_21, l32_22, l32_23, l32_24, l32_25, l32_26, l32_27, l32_28, l32_29, l32_33, l32_40, l32_41, l32_44, l32_45, l32_59, l32_61, l32_91, l32_93, l32_123, l32_125, y3, ev_b32]
    have o1 : (zz_out + (38 + r + 1) < zz_out) = False := eq_false (by omega)
    have o2 : (zz_out < zz_out + (38 + r + 1)) = True := eq_true (by omega)
    have o3 : (zz_out + (38 + r + 1) ≤ zz_out + 41) = True := eq_true (by omega)
    have o6 : (zz_out < zz_out + 40) = True := eq_true (by omega)
    have o7 : (zz_out + 40 ≤ zz_out + 41) = True := eq_true (by omega)
    have o8 : (zz_out < zz_out + 41) = True := eq_true (by omega)
    have o9 : (zz_out + 41 ≤ zz_out + 41) = True := eq_true (by omega)
    unfold cf_192 cf_192_0 cf_192_5 cf_192_9 cf_192_16 cf_192_24
    simp (disch := omega) only [ev_S, ev_C, ↓reduceIte, Nat.reduceEqDiff, Nat.reduceLeDiff, Nat.reduceAdd, Nat.reduceMul, Nat.reduceSub, reduceCtorEq, l32_0, l32_1, l32_2, l32_3, l32_4, l32_5, l32_6, l32_7, l32_8, l32_9, l32_10, l32_11, l32_12, l32_13, l32_14, l32_15, l32_16, l32_17, l32_18, l32_19, l32_20, l32_21, l32_22, l32_23, l32_24, l32_25, l32_26, l32_27, l32_28, l32_29, l32_33, l32_40, l32_41, l32_44, l32_45, l32_59, l32_61, l32_91, l32_93, l32_123, l32_125, o1, y1, hiB, hff, c_placeNow, c_valueNow, hcv, e6, Int64.toInt32_ofNat', a1]
    rcases hr with z | z
    · subst z
      have o4 : (zz_out + (38 + 1 + 1) = zz_out + 40) = True := eq_true (by omega)
      unfold cf_192_33 cf_192_47 cf_192_55 cf_192_60 cf_192_64
      simp (disch := omega) only [ev_S, ev_C, ↓reduceIte, Nat.reduceEqDiff, Nat.reduceLeDiff, Nat.reduceAdd, Nat.reduceMul, Nat.reduceSub, reduceCtorEq, l32_0, l32_1, l32_2, l32_3, l32_4, l32_5, l32_6, l32_7, l32_8, l32_9, l32_10, l32_11, l32_12, l32_13, l32_14, l32_15, l32_16, l32_17, l32_18, l32_19, l32_20, l32_21, l32_22, l32_23, l32_24, l32_25, l32_26, l32_27, l32_28, l32_29, l32_33, l32_40, l32_41, l32_44, l32_45, l32_59, l32_61, l32_91, l32_93, l32_123, l32_125, o2, o3, o4, o6, o7, o8, o9, ac_eq, ac_ne]
      rfl
    · subst z
      have o4 : (zz_out + (38 + 2 + 1) = zz_out + 40) = False := eq_false (by omega)
      have o5 : (zz_out + (38 + 2 + 1) = zz_out + 41) = True := eq_true (by omega)
      unfold cf_192_33 cf_192_40 cf_192_47 cf_192_59 cf_192_60 cf_192_64
      simp (disch := omega) only [ev_S, ev_C, ↓reduceIte, Nat.reduceEqDiff, Nat.reduceLeDiff, Nat.reduceAdd, Nat.reduceMul, Nat.reduceSub, reduceCtorEq, l32_0, l32_1, l32_2, l32_3, l32_4, l32_5, l32_6, l32_7, l32_8, l32_9, l32_10, l32_11, l32_12, l32_13, l32_14, l32_15, l32_16, l32_17, l32_18, l32_19, l32_20, l32_21, l32_22, l32_23, l32_24, l32_25, l32_26, l32_27, l32_28, l32_29, l32_33, l32_40, l32_41, l32_44, l32_45, l32_59, l32_61, l32_91, l32_93, l32_123, l32_125, o2, o3, o4, o5, o6, o7, o8, o9, ac_eq, ac_ne]
      rfl
  -- an answer of cf_193 is an answer of cf_192
  have up : ∀ R : kO, RS N b n p e i op (D + 1) code W cu fs al t s R → RS N b n p e i op (D + 1) code W cu fs al t s (ko_call 5 R (fun g1 v1 => co_v v1 (some (g1, .inl none)))) := fun R hR => by
    rcases hR with ⟨t8, s8, k8, i8, seg8, vs8, cl8, z1, z2, z3, z4, z5, z6⟩ | ⟨t8, s8, k8, z1, z2, z3, z4, z5⟩
    · exact Or.inl ⟨t8, s8, k8, i8, seg8, vs8, cl8, by rw [z1]; rfl, z2, z3, z4, z5, z6⟩
    · exact Or.inr ⟨t8, s8, k8, by rw [z1]; rfl, z2, z3, z4, z5⟩
  obtain ⟨hi0, (⟨t1, t2, s3, a1, a2, a3, a4, a5, a6⟩ | ⟨t1, t2, s3, a1, a2, a3, a4, a5⟩)⟩ := p_beg (N := N) (X := X) (x1 := Int32.ofNat (38 + r)) (q := 8) (a := 27 + r) hN h (Or.inr (Or.inr ⟨by rw [show 27 + r + 11 = 38 + r by omega], by omega, rfl⟩)) hWl (fun _ => k1)
  · rw [hC t1 a1]
    refine up _ ?_
    rw [if_pos rfl] at a5
    obtain ⟨hi2, e52, e62, e72, hkk2, ho2, he2, hlt2, _⟩ := a4.1.now
    obtain ⟨q0, q1, -⟩ := w_last a4.2.2.2.2.1
    have hpl2 := TL_at hi2
    have hpl1 := TL_at hi
    -- the name is kept
    obtain ⟨f1, f2⟩ := a4.2.2.2.2.1.nm (v := s3.2.1 7) (x := (TL b n)[i + 2].2.2.2.1)
    obtain ⟨g1, g2⟩ := a4.wt f1 f2
    have h36 : s3.1 6 = Int32.ofNat (TL b n)[i + 2].2.2.2.1 := hkk2.1
    have hW8 : W.length < 80 := by omega
    have n1 := r_isName (N := N) hN g1.1.2.2.2.2.2.2.2.1 g1.1.2.2.2.2.2.2.1.2
    have h95 : mf_287_95 N s3 = mo_bi (mf_266 N (mA (mB s3 42 (vp_updL (s3.2.2.2 42) W.length (s3.2.1 7))) 43 (upd (s3.2.2.1 43) W.length (Int32.ofNat (TL b n)[i + 2].2.2.2.1)))) (fun s1 y => mf_287_129 N y s1) := by
      unfold mf_287_95
      rw [q0, h36]
      simp (disch := omega) only [ev_S, ev_P, ↓reduceIte, Nat.reduceEqDiff, Nat.reduceLeDiff, Nat.reduceAdd, Nat.reduceMul, Nat.reduceSub, reduceCtorEq, l32_0, l32_1, l32_2, l32_3, l32_4, l32_5, l32_6, l32_7, l32_8, l32_9, l32_10, l32_11, l32_12, l32_13, l32_14, l32_15, l32_16, l32_17, l32_18, l32_19, l32_20, l32_21, l32_22, l32_23, l32_24, l32_25, l32_26, l32_27, l32_28, l32_29, l32_33, l32_40, l32_41, l32_44, l32_45, l32_59, l32_61, l32_91, l32_93, l32_123, l32_125]
    generalize hS : mA (mB s3 42 (vp_updL (s3.2.2.2 42) W.length (s3.2.1 7))) 43 (upd (s3.2.2.1 43) W.length (Int32.ofNat (TL b n)[i + 2].2.2.2.1)) = sn at *
    have kn : cf_42 N X t2 = some (t2, .inl (some (.int (Int32.ofNat (ck (TL b n)[i + 2]))))) := by rw [c_kindNow, e52]
    by_cases z : ck (TL b n)[i + 2] = 3
    · rw [if_pos z] at n1
      obtain ⟨z1, z2⟩ := ck3.mp z
      have hoL : okL (TL b n)[i + 2].2.2.1 ∧ (TL b n)[i + 2].2.2.1.length ≤ 8 := by
        rcases ho2 with z | z | z | z | z
        · omega
        · omega
        · omega
        · exact z.2
        · omega
      have hv3 : s3.2.1 7 = Int64.ofNat (evB 27 (TL b n)[i + 2].2.2.1) := by
        obtain ⟨y1, y2, y3 | y3 | y3 | y3 | y3⟩ := hkk2
        · omega
        · omega
        · omega
        · exact y3.2.2.1
        · omega
      rw [hv3] at g1
      have hc3 : kL t2 3 7 = Int64.ofNat (evB 32 (TL b n)[i + 2].2.2.1) := by
        rw [e72]
        unfold c3
        rw [if_pos z1, z2]
      have hf2 : cf_202 N X (Int32.ofNat 1) (Int32.ofNat 2) t2 = some (t2, .inl none) := c_fine
      obtain ⟨t3, s5, b1, b2, b3, b4, b5⟩ := g1.adv (N := N) (X := X) hN (fun _ => by omega)
      have hC3 : cf_193 N X (cf_S0 N X F) (Int32.ofNat r) (Int32.ofNat (TL b n)[i].2.2.2.1) t1 = ko_call 5 (cf_201 N X (Int32.ofNat 44) t3) (fun g1 v1 => co_v v1 (cf_193_66 N X (cf_S0 N X F) (cf_193_L12 N X (cf_S0 N X F) (N - 3 + 2)) (Int32.ofNat r) (Int32.ofNat (TL b n)[i].2.2.2.1) (Int64.ofNat (evB 32 (TL b n)[i + 2].2.2.1)) (Int32.ofNat (TL b n)[i + 2].2.2.2.1) (Int32.ofNat 0) g1)) := by
        have eL : ∀ x1 x2 x3 x5 x6 t, cf_193_L12 N X (cf_S0 N X F) N 0 x1 x2 x3 x5 x6 t = cf_193_54 N X (cf_S0 N X F) (cf_193_L12 N X (cf_S0 N X F) (N - 3 + 2)) x1 x2 x3 x5 x6 t := fun x1 x2 x3 x5 x6 t => by
          rw [show (cf_193_L12 N X (cf_S0 N X F) N 0 x1 x2 x3 x5 x6 t = cf_193_L12 N X (cf_S0 N X F) (N - 3 + 2 + 1) 0 x1 x2 x3 x5 x6 t) by rw [show N - 3 + 2 + 1 = N by omega]]
          rfl
        have hr0 : ¬ r ≤ 0 := by omega
        unfold cf_193 cf_193_0 cf_193_6 cf_193_14 cf_193_18 cf_193_23 cf_193_27 cf_193_34 cf_193_42 cf_193_51
        simp (disch := omega) only [ev_S, ev_C, ↓reduceIte, Nat.reduceEqDiff, Nat.reduceLeDiff, Nat.reduceAdd, Nat.reduceMul, Nat.reduceSub, reduceCtorEq, l32_0, l32_1, l32_2, l32_3, l32_4, l32_5, l32_6, l32_7, l32_8, l32_9, l32_10, l32_11, l32_12, l32_13, l32_14, l32_15, l32_16, l32_17, l32_18, l32_19, l32_20, l32_21, l32_22, l32_23, l32_24, l32_25, l32_26, l32_27, l32_28, l32_29, l32_33, l32_40, l32_41, l32_44, l32_45, l32_59, l32_61, l32_91, l32_93, l32_123, l32_125, a2, kn, z, hf2, c_valueNow, c_placeNow, hc3, e62, b1]
        rw [eL]
        unfold cf_193_54 cf_193_60
        simp (disch := omega) only [ev_S, ev_C, ↓reduceIte, Nat.reduceEqDiff, Nat.reduceLeDiff, Nat.reduceAdd, Nat.reduceMul, Nat.reduceSub, reduceCtorEq, l32_0, l32_1, l32_2, l32_3, l32_4, l32_5, l32_6, l32_7, l32_8, l32_9, l32_10, l32_11, l32_12, l32_13, l32_14, l32_15, l32_16, l32_17, l32_18, l32_19, l32_20, l32_21, l32_22, l32_23, l32_24, l32_25, l32_26, l32_27, l32_28, l32_29, l32_33, l32_40, l32_41, l32_44, l32_45, l32_59, l32_61, l32_91, l32_93, l32_123, l32_125, hr0]
      rw [hC3]
      have h287 : ∀ s6, mf_267 N (Int32.ofNat 44) s5 = some (s6, none) → ∀ f, LL N (f + 1) al (Int32.ofNat 0) s = LL N f al (Int32.ofNat 0) s6 := fun s6 hh f => by
        rw [LL_0 h9, hst]
        unfold mf_286_180 mf_286_186
        rw [a5, h95, n1]
        unfold mf_287_129 mf_287_132 mf_287_136 mf_287_143 mf_287_149
        simp (disch := omega) only [ev_S, ev_P, ↓reduceIte, Nat.reduceEqDiff, Nat.reduceLeDiff, Nat.reduceAdd, Nat.reduceMul, Nat.reduceSub, reduceCtorEq, l32_0, l32_1, l32_2, l32_3, l32_4, l32_5, l32_6, l32_7, l32_8, l32_9, l32_10, l32_11, l32_12, l32_13, l32_14, l32_15, l32_16, l32_17, l32_18, l32_19, l32_20, l32_21, l32_22, l32_23, l32_24, l32_25, l32_26, l32_27, l32_28, l32_29, l32_33, l32_40, l32_41, l32_44, l32_45, l32_59, l32_61, l32_91, l32_93, l32_123, l32_125, b2, hh]
      have hall : FR p e t t3 s s5 := a6.tr (g2.tr ⟨b4, b5⟩)
      rcases b3.sgn (N := N) (X := X) (c := 44) hN (by omega) (fun z => by omega) with ⟨t7, s7, y1, y2, y3, y4, y5, y6⟩ | ⟨t7, s7, y1, y2, y3, y4, y5⟩
      · rw [if_neg (by omega)] at y4
        have w7 : rWn s7 := hwn.kp (hall.tr y5).2
        have hLL := h287 s7 y2
        rw [y1]
        show RS N b n p e i op (D + 1) code W cu fs al t s (cf_193_66 N X (cf_S0 N X F) (cf_193_L12 N X (cf_S0 N X F) (N - 3 + 2)) (Int32.ofNat r) (Int32.ofNat (TL b n)[i].2.2.2.1) (Int64.ofNat (evB 32 (TL b n)[i + 2].2.2.1)) (Int32.ofNat (TL b n)[i + 2].2.2.2.1) (Int32.ofNat 0) t7)
        rcases p_wall (Q := N - 3) (pl := (TL b n)[i].2.2.2.1) (npl := (TL b n)[i + 2].2.2.2.1) (al := al) (cu := cu) (D := D) hN hSX hr hoL ⟨by omega, by omega⟩ (by omega) (by omega) (by omega) (y4.dn (by omega)) w7 with ⟨t8, s8, k8, i8, seg8, vs8, cl8, z1, z2, z3, z4, z5, z6⟩ | ⟨t8, s8, k8, z1, z2, z3, z4, z5⟩
        · refine Or.inl ⟨t8, s8, k8 + 1, i8, seg8, vs8, cl8, z1, by omega, by omega, fun f => ?_, z5, (hall.tr y5).tr z6⟩
          rw [← Nat.add_assoc, hLL]
          exact z4 f
        · refine Or.inr ⟨t8, s8, k8 + 1, z1, by omega, fun f => ?_, z4, (hall.tr y5).pre z5⟩
          rw [← Nat.add_assoc, hLL]
          exact z3 f
      · obtain ⟨x, y, v1, v2, v3, v4, v5, v6, v7⟩ := y3
        refine Or.inr ⟨t7, s7, 2, by rw [y1]; rfl, by omega, fun f => ?_, ⟨x, y, v1, v2, v3, v4, v5, v6, v7⟩, hall.pre y4⟩
        rw [show f + 2 = (f + 1) + 1 by omega, h287 s7 y2]
        exact LL_f (N := N) v6 ⟨v1, v2⟩
    · rw [if_neg z] at n1
      obtain ⟨t', s', c1, c2, c3, c4, c5⟩ := p_wrong (N := N) (X := X) g1.1
      obtain ⟨x, y, v1, v2, v3, v4, v5, v6, v7⟩ := c3
      have c1 : cf_202 N X (Int32.ofNat 0) (Int32.ofNat 2) t2 = some (t', .inr ()) := c1
      refine Or.inr ⟨t', s', 2, ?_, by omega, fun f => ?_, ⟨x, y, v1, v2, v3, v4, v5, v6, v7⟩, (a6.tr g2).pre ⟨c4.mono eP_Q (fun _ z => z.elim), fPs.Q c5, g1.oB.kp (c5.1 28 (by omega)), g1.szF c4⟩⟩
      · unfold cf_193 cf_193_0 cf_193_6 cf_193_14 cf_193_22 cf_193_23
        simp (disch := omega) only [ev_S, ev_C, ↓reduceIte, Nat.reduceEqDiff, Nat.reduceLeDiff, Nat.reduceAdd, Nat.reduceMul, Nat.reduceSub, reduceCtorEq, l32_0, l32_1, l32_2, l32_3, l32_4, l32_5, l32_6, l32_7, l32_8, l32_9, l32_10, l32_11, l32_12, l32_13, l32_14, l32_15, l32_16, l32_17, l32_18, l32_19, l32_20, l32_21, l32_22, l32_23, l32_24, l32_25, l32_26, l32_27, l32_28, l32_29, l32_33, l32_40, l32_41, l32_44, l32_45, l32_59, l32_61, l32_91, l32_93, l32_123, l32_125, a2, kn, z, c1]
        rfl
      · have sf := r_signF (N := N) (c := Int32.ofNat 44) v6 ⟨v1, v2⟩
        rw [show f + 2 = (f + 1) + 1 by omega, LL_0 h9, hst]
        unfold mf_286_180 mf_286_186
        rw [a5, h95, n1]
        unfold mf_287_129 mf_287_139 mf_287_143 mf_287_149
        simp (disch := omega) only [ev_S, ev_P, ↓reduceIte, Nat.reduceEqDiff, Nat.reduceLeDiff, Nat.reduceAdd, Nat.reduceMul, Nat.reduceSub, reduceCtorEq, l32_0, l32_1, l32_2, l32_3, l32_4, l32_5, l32_6, l32_7, l32_8, l32_9, l32_10, l32_11, l32_12, l32_13, l32_14, l32_15, l32_16, l32_17, l32_18, l32_19, l32_20, l32_21, l32_22, l32_23, l32_24, l32_25, l32_26, l32_27, l32_28, l32_29, l32_33, l32_40, l32_41, l32_44, l32_45, l32_59, l32_61, l32_91, l32_93, l32_123, l32_125, c2, sf]
        exact LL_f (N := N) v6 ⟨v1, v2⟩
  · rw [hC t1 a1]
    obtain ⟨x, y, v1, v2, v3, v4, v5, v6, v7⟩ := a4
    refine Or.inr ⟨t2, s3, 2, ?_, by omega, fun f => ?_, ⟨x, y, v1, v2, v3, v4, v5, v6, v7⟩, a5⟩
    · unfold cf_193 cf_193_0
      simp (disch := omega) only [ev_S, ev_C, ↓reduceIte, Nat.reduceEqDiff, Nat.reduceLeDiff, Nat.reduceAdd, Nat.reduceMul, Nat.reduceSub, reduceCtorEq, l32_0, l32_1, l32_2, l32_3, l32_4, l32_5, l32_6, l32_7, l32_8, l32_9, l32_10, l32_11, l32_12, l32_13, l32_14, l32_15, l32_16, l32_17, l32_18, l32_19, l32_20, l32_21, l32_22, l32_23, l32_24, l32_25, l32_26, l32_27, l32_28, l32_29, l32_33, l32_40, l32_41, l32_44, l32_45, l32_59, l32_61, l32_91, l32_93, l32_123, l32_125, a2]
      rfl
    · rw [show f + 2 = (f + 1) + 1 by omega, LL_0 h9, hst]
      unfold mf_286_180 mf_286_186
      simp (disch := omega) only [ev_S, ev_P, ↓reduceIte, Nat.reduceEqDiff, Nat.reduceLeDiff, Nat.reduceAdd, Nat.reduceMul, Nat.reduceSub, reduceCtorEq, l32_0, l32_1, l32_2, l32_3, l32_4, l32_5, l32_6, l32_7, l32_8, l32_9, l32_10, l32_11, l32_12, l32_13, l32_14, l32_15, l32_16, l32_17, l32_18, l32_19, l32_20, l32_21, l32_22, l32_23, l32_24, l32_25, l32_26, l32_27, l32_28, l32_29, l32_33, l32_40, l32_41, l32_44, l32_45, l32_59, l32_61, l32_91, l32_93, l32_123, l32_125, a3]
      exact LL_f (N := N) v6 ⟨v1, v2⟩
end WLN
