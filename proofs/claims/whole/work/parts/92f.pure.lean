/-! ===== PURE: each and fold (2) ===== -/
section WLM
variable {N : Nat} {X : Nat → Option zz_C} {t t' : cS} {s s' s0 s1 s2 : mS} {b : Nat → Nat} {n p e i i0 op D D' : Nat} {code code1 code2 fl : List Ins} {vs : List (List Nat)} {cl : List Cn} {W W' : List Wt} {cu cu' : List Nat} {fs : Nat × Nat × Nat} {al : Int32} {rk : Nat → List Value → cS → kO} {Z : List (Nat × Nat)} {ah : Option (Nat × Nat)}
/-- ends2 of each and fold comes to the bracket -/
theorem r_en8 {w : Wt} (h : PE b n p e i op D code code vs cl (W ++ [w]) cu fs t s) (hq : w.1 = 8) (hc2 : w.2.2.1 < 2000) : mf_290 N s = mo_bv (mf_267 N (Int32.ofNat 41) (mI s 44 (Int32.ofNat W.length))) (fun s1 => mf_290_114 N (Int32.ofNat W.length) (Int32.ofNat w.2.2.1) s1) := by
  obtain ⟨q0, q1, q2, q3, q4, q5, q6, q7⟩ := w_last h.2.2.2.2.1
  rw [hq] at q2
  have hW8 : W.length < 80 := by omega
  have b0 : (mI s 44 (Int32.ofNat W.length)).2.2.1 38 W.length = Int32.ofNat 8 := q2
  unfold mf_290 mf_290_0
  rw [q0]
  simp (disch := omega) only [ev_S, ev_P, ↓reduceIte, Nat.reduceEqDiff, Nat.reduceLeDiff, Nat.reduceAdd, Nat.reduceMul, Nat.reduceSub, reduceCtorEq, l32_0, l32_1, l32_2, l32_3, l32_4, l32_5, l32_6, l32_7, l32_8, l32_9, l32_10, l32_11, l32_12, l32_13, l32_14, l32_15, l32_16, l32_17, l32_18, l32_19, l32_20, l32_21, l32_22, l32_23, l32_24, l32_25, l32_26, l32_27, l32_28, l32_29, l32_33, l32_40, l32_41, l32_44, l32_45, l32_59, l32_61, l32_91, l32_93, l32_123, l32_125, q2, q4]
  generalize mI s 44 (Int32.ofNat W.length) = sp at *
  unfold mf_290_55 mf_290_108
  simp (disch := omega) only [ev_S, ev_P, ↓reduceIte, Nat.reduceEqDiff, Nat.reduceLeDiff, Nat.reduceAdd, Nat.reduceMul, Nat.reduceSub, reduceCtorEq, l32_0, l32_1, l32_2, l32_3, l32_4, l32_5, l32_6, l32_7, l32_8, l32_9, l32_10, l32_11, l32_12, l32_13, l32_14, l32_15, l32_16, l32_17, l32_18, l32_19, l32_20, l32_21, l32_22, l32_23, l32_24, l32_25, l32_26, l32_27, l32_28, l32_29, l32_33, l32_40, l32_41, l32_44, l32_45, l32_59, l32_61, l32_91, l32_93, l32_123, l32_125, b0]
/-- the last E of each or fold, and what is behind it -/
theorem p_wlast {F r pl npl Q : Nat} {ls : List Nat} (hN : 170000 ≤ N) (hSX : SX N X b n p e F) (hr : r = 1 ∨ r = 2) (hls : okL ls ∧ ls.length ≤ 8) (hpl : pl < 2000 ∧ npl ≤ 1600) (ho1 : op + 1 ≤ 10) (hF : 10 * (10 - (op + 1)) + 10 ≤ F) (hWl : W.length + 1 ≤ 6 * (op + 1)) (h : PE b n p e i (op + 1) (D + 3) code code vs cl (W ++ [(8, 27 + r, r - 1, pl, Int64.ofNat (evB 27 ls), npl)]) (List.replicate (r - 1) 0 ++ cu) fs t s) (hwn : rWn s) : RS N b n p e i op (D + 1) code W cu fs al t s (cf_193_66 N X (cf_S0 N X F) (cf_193_L12 N X (cf_S0 N X F) (Q + 1)) (Int32.ofNat r) (Int32.ofNat pl) (Int64.ofNat (evB 32 ls)) (Int32.ofNat npl) (Int32.ofNat (r - 1)) t) := by
  have hHW : HW 0 (W ++ [(8, 27 + r, r - 1, pl, Int64.ofNat (evB 27 ls), npl)]) := Or.inr ⟨W, _, rfl, Or.inl (by show 3 ≤ 8; omega)⟩
  have hne : al = 0 ∨ ¬ (W ++ [(8, 27 + r, r - 1, pl, Int64.ofNat (evB 27 ls), npl)]) = [] := Or.inr (by simp)
  have hC : cf_193_66 N X (cf_S0 N X F) (cf_193_L12 N X (cf_S0 N X F) (Q + 1)) (Int32.ofNat r) (Int32.ofNat pl) (Int64.ofNat (evB 32 ls)) (Int32.ofNat npl) (Int32.ofNat (r - 1)) t = ko_call 5 (cf_S0 N X F 186 [.int (Int32.ofNat 0)] t) (fun g1 v1 => co_v v1 (cf_193_77 N X (cf_S0 N X F) (Int32.ofNat r) (Int32.ofNat pl) (Int64.ofNat (evB 32 ls)) (Int32.ofNat npl) g1)) := by
    have e1 : r - 1 + 1 = r := by omega
    have eL : ∀ x1 x2 x3 x5 x6 t, cf_193_L12 N X (cf_S0 N X F) (Q + 1) 0 x1 x2 x3 x5 x6 t = cf_193_54 N X (cf_S0 N X F) (cf_193_L12 N X (cf_S0 N X F) Q) x1 x2 x3 x5 x6 t := fun _ _ _ _ _ _ => rfl
    unfold cf_193_66 cf_193_71
    simp only [eL]
    unfold cf_193_54
    simp (disch := omega) only [ev_S, ev_C, ↓reduceIte, Nat.reduceEqDiff, Nat.reduceLeDiff, Nat.reduceAdd, Nat.reduceMul, Nat.reduceSub, reduceCtorEq, l32_0, l32_1, l32_2, l32_3, l32_4, l32_5, l32_6, l32_7, l32_8, l32_9, l32_10, l32_11, l32_12, l32_13, l32_14, l32_15, l32_16, l32_17, l32_18, l32_19, l32_20, l32_21, l32_22, l32_23, l32_24, l32_25, l32_26, l32_27, l32_28, l32_29, l32_33, l32_40, l32_41, l32_44, l32_45, l32_59, l32_61, l32_91, l32_93, l32_123, l32_125, e1]
  rw [hC]
  rcases hSX 0 i (op + 1) (D + 3) code vs cl _ (List.replicate (r - 1) 0 ++ cu) fs al t s (by decide) h hwn hHW (by rw [List.length_append]; exact hWl) hne hF (by omega) with ⟨t4, s4, k4, i4, seg4, code4, vs4, cl4, Z4, ah4, x1, x2, x3, x4, x5, x6, x7, x8, x9, x10⟩ | ⟨t4, s4, k4, x1, x2, x3, x4, x5⟩
  · rw [x1]
    obtain ⟨hi4, -⟩ := x5.1.now
    obtain ⟨s5, d1, d2, d3⟩ := PE.flu (N := N) (al := al) hN x5 x6 x7 (fun z hh => ⟨(x8 z hh).1, (x8 z hh).2.2⟩) x9 hHW hne
    have hr1 : r - 1 < 2000 := by omega
    obtain ⟨s6, g1, g2, g3, g4⟩ := PE.e1w (N := N) d2 rfl (by show 27 + r = 28 ∨ 27 + r = 29; omega) hr1
    have g4 := g4 (by show ¬ (27 + r = 29 ∧ r - 1 = 0); omega)
    have h9 := r_en8 (N := N) g1 rfl (by show r - 1 + 1 < 2000; omega)
    have h9 : mf_290 N s6 = mo_bv (mf_267 N (Int32.ofNat 41) (mI s6 44 (Int32.ofNat W.length))) (fun s1 => mf_290_114 N (Int32.ofNat W.length) (Int32.ofNat (r - 1 + 1)) s1) := h9
    rw [show r - 1 + 1 = r by omega] at h9
    obtain ⟨p1, p2, p3⟩ := g1.pop
    have hLL : ∀ f, LL N (f + (k4 + 1)) al (Int32.ofNat 0) s = mo_bi (mo_bi (mf_290 N s6) (fun s2 y => mf_288_189 N y s2)) (fun s1 y => LL N f al y s1) := fun f => by
      rw [show f + (k4 + 1) = (f + 1) + k4 by omega, x4, d1 f, L215 d2.2.2.2.2.1, g4]
    have hall : FR p e t t4 s (mI s6 44 (Int32.ofNat W.length)) := x10.tr (d3.tr (g2.tr p2))
    rw [h9] at hLL
    show RS N b n p e i op (D + 1) code W cu fs al t s (cf_193_77 N X (cf_S0 N X F) (Int32.ofNat r) (Int32.ofNat pl) (Int64.ofNat (evB 32 ls)) (Int32.ofNat npl) t4)
    generalize hS : mI s6 44 (Int32.ofNat W.length) = sp at *
    rcases p1.sgn (N := N) (X := X) (c := 41) hN (by omega) (fun _ => by omega) with ⟨t7, s7, y1, y2, y3, y4, y5, y6⟩ | ⟨t7, s7, y1, y2, y3, y4, y5⟩
    · rw [if_pos (by omega), Nat.add_sub_cancel] at y4
      have hcu : (0 :: (List.replicate (r - 1) 0 ++ cu)) = List.replicate r 0 ++ cu := by
        rcases hr with z | z <;> subst z <;> rfl
      rw [hcu] at y4
      have hp : (p = 12 ∨ p = 21) = True := eq_true y4.2.1.2.1
      have hP := y4.2.1.1
      obtain ⟨u1, u2, u3, u4, z1, z2, z3, ⟨c1, c1'⟩, ⟨c2, c2'⟩, ⟨c3, c3'⟩, c4, o1, o2, o3, o4, o5, o6, o7⟩ := y4.wk (N := N) (X := X) (pl := pl) (npl := npl) (D' := D + 1) hr hls hpl.2 (by omega)
      have hsl := p3.kp y6
      obtain ⟨m1, m2, m3, m4, m5⟩ := hsl
      have m1 : s7.2.2.1 38 W.length = Int32.ofNat 8 := m1
      have m2 : s7.2.2.1 39 W.length = Int32.ofNat (27 + r) := m2
      have m4 : s7.2.2.1 41 W.length = Int32.ofNat pl := m4
      obtain ⟨m6, m7⟩ := m5 (by show 6 ≤ 8; omega)
      have m6 : s7.2.2.2 42 W.length = Int64.ofNat (evB 27 ls) := m6
      have m7 : s7.2.2.1 43 W.length = Int32.ofNat npl := m7
      have h79 : s7.1 9 = Int32.ofNat 0 := y4.1.2.2.2.2.2.2.2.2.2
      have n2 : z1.2.2.1 39 W.length = Int32.ofNat (27 + r) := by rw [o6.2.2.1 39 (by decide)]; exact m2
      have n4 : z1.2.2.1 41 W.length = Int32.ofNat pl := by rw [o6.2.2.1 41 (by decide)]; exact m4
      have l2 : z2.2.2.1 39 W.length = Int32.ofNat (27 + r) := by rw [o7.2.2.1 39 (by decide)]; exact n2
      have l6 : z2.2.2.2 42 W.length = Int64.ofNat (evB 27 ls) := by rw [o7.2.2.2.1 42, o6.2.2.2.1 42]; exact m6
      have l7 : z2.2.2.1 43 W.length = Int32.ofNat npl := by rw [o7.2.2.1 43 (by decide), o6.2.2.1 43 (by decide)]; exact m7
      have hW8 : W.length < 80 := by omega
      have hE : mf_290_114 N (Int32.ofNat W.length) (Int32.ofNat r) s7 = some (z3, some (.int (Int32.ofNat 1))) := by
        unfold mf_290_114 mf_290_123 mf_290_157 mf_290_202
        simp (disch := omega) only [ev_S, ev_P, ↓reduceIte, Nat.reduceEqDiff, Nat.reduceLeDiff, Nat.reduceAdd, Nat.reduceMul, Nat.reduceSub, reduceCtorEq, l32_0, l32_1, l32_2, l32_3, l32_4, l32_5, l32_6, l32_7, l32_8, l32_9, l32_10, l32_11, l32_12, l32_13, l32_14, l32_15, l32_16, l32_17, l32_18, l32_19, l32_20, l32_21, l32_22, l32_23, l32_24, l32_25, l32_26, l32_27, l32_28, l32_29, l32_33, l32_40, l32_41, l32_44, l32_45, l32_59, l32_61, l32_91, l32_93, l32_123, l32_125, h79, m1, m2, m4, o1]
        unfold mf_290_221
        simp (disch := omega) only [ev_S, ev_P, ↓reduceIte, Nat.reduceEqDiff, Nat.reduceLeDiff, Nat.reduceAdd, Nat.reduceMul, Nat.reduceSub, reduceCtorEq, l32_0, l32_1, l32_2, l32_3, l32_4, l32_5, l32_6, l32_7, l32_8, l32_9, l32_10, l32_11, l32_12, l32_13, l32_14, l32_15, l32_16, l32_17, l32_18, l32_19, l32_20, l32_21, l32_22, l32_23, l32_24, l32_25, l32_26, l32_27, l32_28, l32_29, l32_33, l32_40, l32_41, l32_44, l32_45, l32_59, l32_61, l32_91, l32_93, l32_123, l32_125, n2, n4, o2]
        unfold mf_290_242
        rcases hr with z | z
        · subst z
          unfold mf_290_259 mf_290_264 mf_290_273
          simp (disch := omega) only [ev_S, ev_P, ↓reduceIte, Nat.reduceEqDiff, Nat.reduceLeDiff, Nat.reduceAdd, Nat.reduceMul, Nat.reduceSub, reduceCtorEq, l32_0, l32_1, l32_2, l32_3, l32_4, l32_5, l32_6, l32_7, l32_8, l32_9, l32_10, l32_11, l32_12, l32_13, l32_14, l32_15, l32_16, l32_17, l32_18, l32_19, l32_20, l32_21, l32_22, l32_23, l32_24, l32_25, l32_26, l32_27, l32_28, l32_29, l32_33, l32_40, l32_41, l32_44, l32_45, l32_59, l32_61, l32_91, l32_93, l32_123, l32_125, l2, l6, l7, o3]
        · subst z
          unfold mf_290_263 mf_290_264 mf_290_273
          simp (disch := omega) only [ev_S, ev_P, ↓reduceIte, Nat.reduceEqDiff, Nat.reduceLeDiff, Nat.reduceAdd, Nat.reduceMul, Nat.reduceSub, reduceCtorEq, l32_0, l32_1, l32_2, l32_3, l32_4, l32_5, l32_6, l32_7, l32_8, l32_9, l32_10, l32_11, l32_12, l32_13, l32_14, l32_15, l32_16, l32_17, l32_18, l32_19, l32_20, l32_21, l32_22, l32_23, l32_24, l32_25, l32_26, l32_27, l32_28, l32_29, l32_33, l32_40, l32_41, l32_44, l32_45, l32_59, l32_61, l32_91, l32_93, l32_123, l32_125, l2, l6, l7, o3]
      refine Or.inl ⟨u4, z3, k4 + 1, i4 + 1, seg4 ++ [_], vs4, cl4 ++ [_], ?_, by omega, by omega, fun f => ?_, by rw [← List.append_assoc]; exact o4, hall.tr (y5.tr o5)⟩
      · unfold cf_193_77 cf_193_83 cf_193_94
        simp (disch := omega) only [ev_S, ev_C, ↓reduceIte, Nat.reduceEqDiff, Nat.reduceLeDiff, Nat.reduceAdd, Nat.reduceMul, Nat.reduceSub, reduceCtorEq, l32_0, l32_1, l32_2, l32_3, l32_4, l32_5, l32_6, l32_7, l32_8, l32_9, l32_10, l32_11, l32_12, l32_13, l32_14, l32_15, l32_16, l32_17, l32_18, l32_19, l32_20, l32_21, l32_22, l32_23, l32_24, l32_25, l32_26, l32_27, l32_28, l32_29, l32_33, l32_40, l32_41, l32_44, l32_45, l32_59, l32_61, l32_91, l32_93, l32_123, l32_125, y1, hP, hp, c1, c1']
        rcases hr with z | z
        · subst z
          unfold cf_193_104 cf_193_111 cf_193_116 cf_193_128 cf_193_137 cf_193_144 cf_193_150
          rw [if_pos rfl] at c2 c4
          simp (disch := omega) only [ev_S, ev_C, ↓reduceIte, Nat.reduceEqDiff, Nat.reduceLeDiff, Nat.reduceAdd, Nat.reduceMul, Nat.reduceSub, reduceCtorEq, l32_0, l32_1, l32_2, l32_3, l32_4, l32_5, l32_6, l32_7, l32_8, l32_9, l32_10, l32_11, l32_12, l32_13, l32_14, l32_15, l32_16, l32_17, l32_18, l32_19, l32_20, l32_21, l32_22, l32_23, l32_24, l32_25, l32_26, l32_27, l32_28, l32_29, l32_33, l32_40, l32_41, l32_44, l32_45, l32_59, l32_61, l32_91, l32_93, l32_123, l32_125, hp, c2, c2', c3, c3', c4]
        · subst z
          unfold cf_193_109 cf_193_111 cf_193_116 cf_193_128 cf_193_142 cf_193_144 cf_193_150
          rw [if_neg (by decide)] at c2 c4
          simp (disch := omega) only [ev_S, ev_C, ↓reduceIte, Nat.reduceEqDiff, Nat.reduceLeDiff, Nat.reduceAdd, Nat.reduceMul, Nat.reduceSub, reduceCtorEq, l32_0, l32_1, l32_2, l32_3, l32_4, l32_5, l32_6, l32_7, l32_8, l32_9, l32_10, l32_11, l32_12, l32_13, l32_14, l32_15, l32_16, l32_17, l32_18, l32_19, l32_20, l32_21, l32_22, l32_23, l32_24, l32_25, l32_26, l32_27, l32_28, l32_29, l32_33, l32_40, l32_41, l32_44, l32_45, l32_59, l32_61, l32_91, l32_93, l32_123, l32_125, hp, c2, c2', c3, c3', c4]
      · rw [hLL, y2]
        show mo_bi (mo_bi (mf_290_114 N (Int32.ofNat W.length) (Int32.ofNat r) s7) _) _ = _
        rw [hE]
        rfl
    · obtain ⟨x, y, v1, v2, v3, v4, v5, v6, v7⟩ := y3
      refine Or.inr ⟨t7, s7, k4 + 2, ?_, by omega, fun f => ?_, ⟨x, y, v1, v2, v3, v4, v5, v6, v7⟩, hall.pre y4⟩
      · unfold cf_193_77
        simp (disch := omega) only [ev_S, ev_C, ↓reduceIte, Nat.reduceEqDiff, Nat.reduceLeDiff, Nat.reduceAdd, Nat.reduceMul, Nat.reduceSub, reduceCtorEq, l32_0, l32_1, l32_2, l32_3, l32_4, l32_5, l32_6, l32_7, l32_8, l32_9, l32_10, l32_11, l32_12, l32_13, l32_14, l32_15, l32_16, l32_17, l32_18, l32_19, l32_20, l32_21, l32_22, l32_23, l32_24, l32_25, l32_26, l32_27, l32_28, l32_29, l32_33, l32_40, l32_41, l32_44, l32_45, l32_59, l32_61, l32_91, l32_93, l32_123, l32_125, y1]
        rfl
      · have hE : mf_290_114 N (Int32.ofNat W.length) (Int32.ofNat r) s7 = some (s7, some (.int (Int32.ofNat 1))) := by
          unfold mf_290_114 mf_290_121
          simp (disch := omega) only [ev_S, ev_P, ↓reduceIte, Nat.reduceEqDiff, Nat.reduceLeDiff, Nat.reduceAdd, Nat.reduceMul, Nat.reduceSub, reduceCtorEq, l32_0, l32_1, l32_2, l32_3, l32_4, l32_5, l32_6, l32_7, l32_8, l32_9, l32_10, l32_11, l32_12, l32_13, l32_14, l32_15, l32_16, l32_17, l32_18, l32_19, l32_20, l32_21, l32_22, l32_23, l32_24, l32_25, l32_26, l32_27, l32_28, l32_29, l32_33, l32_40, l32_41, l32_44, l32_45, l32_59, l32_61, l32_91, l32_93, l32_123, l32_125, v6]
        rw [show f + (k4 + 2) = (f + 1) + (k4 + 1) by omega, hLL, y2]
        show mo_bi (mo_bi (mf_290_114 N (Int32.ofNat W.length) (Int32.ofNat r) s7) _) _ = _
        rw [hE]
        exact LL_f (N := N) v6 ⟨v1, v2⟩
  · exact Or.inr ⟨t4, s4, k4, by rw [x1]; rfl, x2, x3, x4, x5⟩
end WLM
