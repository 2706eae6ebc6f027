/-! ===== PURE: atoms (2): groups, literals ===== -/
section ATG
variable {N : Nat} {X : Nat → Option zz_C} {t t' : cS} {s s' s0 s1 s2 : mS} {b : Nat → Nat} {n p e i i0 op D D' : Nat} {code code1 code2 fl : List Ins} {vs : List (List Nat)} {cl : List Cn} {W W' : List Wt} {cu cu' : List Nat} {fs : Nat × Nat × Nat} {al : Int32} {rk : Nat → List Value → cS → kO} {Z : List (Nat × Nat)} {ah : Option (Nat × Nat)}
/-- ends1 of a group or of places -/
theorem PE.e1g {w : Wt} (h : PE b n p e i op D code code vs cl (W ++ [w]) cu fs t s) (hq : w.1 = 3 ∨ w.1 = 4) (hc2 : w.2.2.1 < 2000) : ∃ s1, PE b n p e i op D code code vs cl W cu fs t s1 ∧ FR p e t t s s1 ∧ slt s1 W.length (inc w) ∧ mf_288 N s = mo_bv (mf_267 N (Int32.ofNat (if w.1 = 3 then 41 else 93)) s1) (fun s2 => mf_288_67 N (Int32.ofNat W.length) (Int32.ofNat w.1) s2) := by
  have h5 := h.2.2.2.2.1
  obtain ⟨q0, q1, q2, q3, q4, q5, q6, q7⟩ := w_last h5
  obtain ⟨c1, c2⟩ := h.nc
  obtain ⟨hi, e5, e6, e7, hkk, ho, he, hlt, hll⟩ := c1.1.now
  obtain ⟨r0, r1, -⟩ := w_last c1.2.2.2.2.1
  have g1 := r_isSign (N := N) (c := 44) hkk (by decide) (by decide)
  obtain ⟨p1, p2, p3⟩ := c1.pop
  have hW8 : W.length < 80 := by omega
  have hst : mf_288 N s = mo_bi (mf_263 N (Int32.ofNat 44) (mA s 40 (upd (s.2.2.1 40) W.length (Int32.ofNat (w.2.2.1 + 1))))) (fun s1 y => mf_288_30 N (Int32.ofNat W.length) (Int32.ofNat w.1) y s1) := by
    unfold mf_288 mf_288_0
    simp (disch := omega) only [ev_S, ev_P, ↓reduceIte, Nat.reduceEqDiff, Nat.reduceLeDiff, Nat.reduceAdd, Nat.reduceMul, Nat.reduceSub, reduceCtorEq, l32_0, l32_1, l32_2, l32_3, l32_4, l32_5, l32_6, l32_7, l32_8, l32_9, l32_10, l32_11, l32_12, l32_13, l32_14, l32_15, l32_16, l32_17, l32_18, l32_19, l32_20, l32_21, l32_22, l32_23, l32_24, l32_25, l32_26, l32_27, l32_28, l32_29, l32_33, l32_40, l32_41, l32_44, l32_45, l32_59, l32_61, l32_91, l32_93, l32_123, l32_125, q0, q2, q4]
  generalize hS : mA s 40 (upd (s.2.2.1 40) W.length (Int32.ofNat (w.2.2.1 + 1))) = sn at *
  refine ⟨_, p1, c2.tr p2, p3, ?_⟩
  rw [hst, g1]
  rcases hq with z | z
  · rw [z]
    unfold mf_288_30 mf_288_41 mf_288_57 mf_288_64
    simp (disch := omega) only [ev_S, ev_P, ↓reduceIte, Nat.reduceEqDiff, Nat.reduceLeDiff, Nat.reduceAdd, Nat.reduceMul, Nat.reduceSub, reduceCtorEq, l32_0, l32_1, l32_2, l32_3, l32_4, l32_5, l32_6, l32_7, l32_8, l32_9, l32_10, l32_11, l32_12, l32_13, l32_14, l32_15, l32_16, l32_17, l32_18, l32_19, l32_20, l32_21, l32_22, l32_23, l32_24, l32_25, l32_26, l32_27, l32_28, l32_29, l32_33, l32_40, l32_41, l32_44, l32_45, l32_59, l32_61, l32_91, l32_93, l32_123, l32_125, r0]
  · rw [z]
    unfold mf_288_30 mf_288_36 mf_288_41 mf_288_62 mf_288_64
    simp (disch := omega) only [ev_S, ev_P, ↓reduceIte, Nat.reduceEqDiff, Nat.reduceLeDiff, Nat.reduceAdd, Nat.reduceMul, Nat.reduceSub, reduceCtorEq, l32_0, l32_1, l32_2, l32_3, l32_4, l32_5, l32_6, l32_7, l32_8, l32_9, l32_10, l32_11, l32_12, l32_13, l32_14, l32_15, l32_16, l32_17, l32_18, l32_19, l32_20, l32_21, l32_22, l32_23, l32_24, l32_25, l32_26, l32_27, l32_28, l32_29, l32_33, l32_40, l32_41, l32_44, l32_45, l32_59, l32_61, l32_91, l32_93, l32_123, l32_125, r0]
/-- what the class's fault and the reference's opens leave -/
theorem r_waitF {k a q : Nat} (h : PE b n p e i op D code code1 vs cl W cu fs t s) (f : fPs s s1) (hl : W.length < 80) (hk : k < 6) : ∃ s2, mf_281 N (Int32.ofNat k) (Int32.ofNat a) (Int32.ofNat q) s1 = some (s2, none) ∧ fQ e s1 s2 ∧ s2.1 9 = s1.1 9 ∧ s2.1 10 = s1.1 10 ∧ s2.1 28 = s1.1 28 := by
  obtain ⟨s2, a1, a2, a3⟩ := r_wait (N := N) (k := k) (a := a) (p := q) (h.2.2.2.2.1.keep (f.1 44 (by omega)) (fun q _ => f.2.2.1 q (fun z => z)) (f.2.2.2 42 (fun z => z))) hl hk
  exact ⟨s2, a1, fW.Q a3 ⟨_, a2⟩, a3.1 9 (by decide), a3.1 10 (by decide), a3.1 28 (by decide)⟩
theorem p_group {F : Nat} (hN : 170000 ≤ N) (hSX : SX N X b n p e F) (h : PE b n p e i op D code code vs cl W cu fs t s) (hwn : rWn s) (hD1 : 1 ≤ D) (hF : 10 * (10 - op) ≤ F) (hWl : W.length ≤ 6 * op + 5) (hk : ∀ hi : i < (TL b n).length, (TL b n)[i].1 = 40) : RS N b n p e i op D code W cu fs al t s (cf_190 N X (cf_S0 N X F) t) := by
  obtain ⟨hi, e5, e6, e7, hkk, ho, he, hlt, hll⟩ := h.1.now
  have hk := hk hi
  have h9 : s.1 9 = Int32.ofNat 0 := h.1.2.2.2.2.2.2.2.2.2
  have hop := h.1.2.2.2.1
  have hst := st_group hN h.1.2.2.2.2.2.2.2.1 hkk hk
  have hc5 : kI t 3 5 = Int32.ofNat 40 := by
    rw [e5]
    exact congrArg Int32.ofNat ((ck_sg (by decide)).mpr hk)
  have hC : cf_190 N X (cf_S0 N X F) t = cf_190_131 N X (cf_S0 N X F) t := by
    unfold cf_190 cf_190_0 cf_190_7 cf_190_15
    simp (disch := omega) only [ev_S, ev_C, ↓reduceIte, Nat.reduceEqDiff, Nat.reduceLeDiff, Nat.reduceAdd, Nat.reduceMul, Nat.reduceSub, reduceCtorEq, l32_0, l32_1, l32_2, l32_3, l32_4, l32_5, l32_6, l32_7, l32_8, l32_9, l32_10, l32_11, l32_12, l32_13, l32_14, l32_15, l32_16, l32_17, l32_18, l32_19, l32_20, l32_21, l32_22, l32_23, l32_24, l32_25, l32_26, l32_27, l32_28, l32_29, l32_33, l32_40, l32_41, l32_44, l32_45, l32_59, l32_61, l32_91, l32_93, l32_123, l32_125, c_placeNow, c_kindNow, hc5, e6]
  rw [hC]
  rcases h.opn (N := N) (X := X) (c := 40) hN (by omega) with ⟨t1, s1, a1, a2, a3, a4, a5, a6⟩ | ⟨t1, s1, a1, a2, a3, a4, a5⟩
  · obtain ⟨s2, b1, b2, b3⟩ := r_wait (N := N) (k := 3) (a := 0) (p := (TL b n)[i].2.2.2.1) a5.2.2.2.2.1 (by omega) (by decide)
    obtain ⟨c1, c2⟩ := a5.wt b2 b3
    have hLL : ∀ f, LL N (f + 1) al (Int32.ofNat 0) s = LL N f al (Int32.ofNat 0) s2 := fun f => by
      rw [LL_0 h9, hst]
      unfold mf_286_89 mf_286_95 mf_286_102
      simp (disch := omega) only [ev_S, ev_P, ↓reduceIte, Nat.reduceEqDiff, Nat.reduceLeDiff, Nat.reduceAdd, Nat.reduceMul, Nat.reduceSub, reduceCtorEq, l32_0, l32_1, l32_2, l32_3, l32_4, l32_5, l32_6, l32_7, l32_8, l32_9, l32_10, l32_11, l32_12, l32_13, l32_14, l32_15, l32_16, l32_17, l32_18, l32_19, l32_20, l32_21, l32_22, l32_23, l32_24, l32_25, l32_26, l32_27, l32_28, l32_29, l32_33, l32_40, l32_41, l32_44, l32_45, l32_59, l32_61, l32_91, l32_93, l32_123, l32_125, a2, b1]
    have w2 : rWn s2 := hwn.kp (a6.tr c2).2
    have hC2 : cf_190_131 N X (cf_S0 N X F) t = ko_call 5 (cf_S0 N X F 186 [.int (Int32.ofNat 0)] t1) (fun g1 v1 => co_v v1 (cf_190_142 N X (cf_S0 N X F) g1)) := by
      unfold cf_190_131 cf_190_137
      simp (disch := omega) only [ev_S, ev_C, ↓reduceIte, Nat.reduceEqDiff, Nat.reduceLeDiff, Nat.reduceAdd, Nat.reduceMul, Nat.reduceSub, reduceCtorEq, l32_0, l32_1, l32_2, l32_3, l32_4, l32_5, l32_6, l32_7, l32_8, l32_9, l32_10, l32_11, l32_12, l32_13, l32_14, l32_15, l32_16, l32_17, l32_18, l32_19, l32_20, l32_21, l32_22, l32_23, l32_24, l32_25, l32_26, l32_27, l32_28, l32_29, l32_33, l32_40, l32_41, l32_44, l32_45, l32_59, l32_61, l32_91, l32_93, l32_123, l32_125, a1]
    rw [hC2]
    have hne : al = 0 ∨ ¬ (W ++ [(3, 0, 0, (TL b n)[i].2.2.2.1, (0 : Int64), 0)]) = [] := Or.inr (by simp)
    rcases hSX 0 (i + 1) (op + 1) D code vs cl (W ++ [(3, 0, 0, (TL b n)[i].2.2.2.1, 0, 0)]) cu fs al t1 s2 (by decide) (c1.dn (by omega)) w2 (Or.inr ⟨W, _, rfl, Or.inl (by show 3 ≤ 3; omega)⟩) (by rw [List.length_append, List.length_singleton]; omega) hne (by omega) hD1 with ⟨t4, s4, k4, i4, seg4, code4, vs4, cl4, Z4, ah4, x1, x2, x3, x4, x5, x6, x7, x8, x9, x10⟩ | ⟨t4, s4, k4, x1, x2, x3, x4, x5⟩
    · obtain ⟨s5, d1, d2, d3⟩ := PE.flu (N := N) (al := al) hN x5 x6 x7 (fun z hh => ⟨(x8 z hh).1, (x8 z hh).2.2⟩) x9 (Or.inr ⟨W, _, rfl, Or.inl (by show 3 ≤ 3; omega)⟩) hne
      obtain ⟨s6, g1, g2, g3, g4⟩ := PE.e1g (N := N) d2 (Or.inl rfl) (by show 0 < 2000; omega)
      have hC3 : ∀ f, LL N (f + 1) al (Int32.ofNat 1) s4 = mo_bi (mo_bv (mf_267 N (Int32.ofNat 41) s6) (fun s2 => mf_288_67 N (Int32.ofNat W.length) (Int32.ofNat 3) s2)) (fun s1 y => LL N f al y s1) := fun f => by
        rw [d1 f, L215 d2.2.2.2.2.1, g4]
        rfl
      have hT : ∀ s7, mf_288_67 N (Int32.ofNat W.length) (Int32.ofNat 3) s7 = some (s7, some (.int (Int32.ofNat 1))) := fun s7 => by
        unfold mf_288_67 mf_288_87
        simp (disch := omega) only [ev_S, ev_P, ↓reduceIte, Nat.reduceEqDiff, Nat.reduceLeDiff, Nat.reduceAdd, Nat.reduceMul, Nat.reduceSub, reduceCtorEq, l32_0, l32_1, l32_2, l32_3, l32_4, l32_5, l32_6, l32_7, l32_8, l32_9, l32_10, l32_11, l32_12, l32_13, l32_14, l32_15, l32_16, l32_17, l32_18, l32_19, l32_20, l32_21, l32_22, l32_23, l32_24, l32_25, l32_26, l32_27, l32_28, l32_29, l32_33, l32_40, l32_41, l32_44, l32_45, l32_59, l32_61, l32_91, l32_93, l32_123, l32_125]
      have hall : FR p e t t4 s s6 := (a6.tr c2).tr (x10.tr (d3.tr g2))
      rw [x1]
      rcases g1.sgn (N := N) (X := X) (c := 41) hN (by omega) (fun _ => by omega) with ⟨t7, s7, y1, y2, y3, y4, y5, y6⟩ | ⟨t7, s7, y1, y2, y3, y4, y5⟩
      · refine Or.inl ⟨t7, s7, k4 + 2, i4 + 1, seg4, vs4, cl4, ?_, by omega, by omega, fun f => ?_, ?_, hall.tr y5⟩
        · show cf_190_142 N X (cf_S0 N X F) t4 = _
          unfold cf_190_142 cf_190_148 cf_190_176
          simp (disch := omega) only [ev_S, ev_C, ↓reduceIte, Nat.reduceEqDiff, Nat.reduceLeDiff, Nat.reduceAdd, Nat.reduceMul, Nat.reduceSub, reduceCtorEq, l32_0, l32_1, l32_2, l32_3, l32_4, l32_5, l32_6, l32_7, l32_8, l32_9, l32_10, l32_11, l32_12, l32_13, l32_14, l32_15, l32_16, l32_17, l32_18, l32_19, l32_20, l32_21, l32_22, l32_23, l32_24, l32_25, l32_26, l32_27, l32_28, l32_29, l32_33, l32_40, l32_41, l32_44, l32_45, l32_59, l32_61, l32_91, l32_93, l32_123, l32_125, y1]
        · rw [show f + (k4 + 2) = (f + 1 + k4) + 1 by omega, hLL, x4, hC3, y2]
          show mo_bi (mf_288_67 N (Int32.ofNat W.length) (Int32.ofNat 3) s7) _ = _
          rw [hT]
          rfl
        · rw [if_pos (by omega)] at y4
          exact y4.dn (by omega)
      · obtain ⟨x, y, v1, v2, v3, v4, v5, v6, v7⟩ := y3
        obtain ⟨hi4, -⟩ := x5.1.now
        refine Or.inr ⟨t7, s7, k4 + 3, ?_, by omega, fun f => ?_, ⟨x, y, v1, v2, v3, v4, v5, v6, v7⟩, hall.pre y4⟩
        · show cf_190_142 N X (cf_S0 N X F) t4 = _
          unfold cf_190_142
          simp (disch := omega) only [ev_S, ev_C, ↓reduceIte, Nat.reduceEqDiff, Nat.reduceLeDiff, Nat.reduceAdd, Nat.reduceMul, Nat.reduceSub, reduceCtorEq, l32_0, l32_1, l32_2, l32_3, l32_4, l32_5, l32_6, l32_7, l32_8, l32_9, l32_10, l32_11, l32_12, l32_13, l32_14, l32_15, l32_16, l32_17, l32_18, l32_19, l32_20, l32_21, l32_22, l32_23, l32_24, l32_25, l32_26, l32_27, l32_28, l32_29, l32_33, l32_40, l32_41, l32_44, l32_45, l32_59, l32_61, l32_91, l32_93, l32_123, l32_125, y1]
          rfl
        · rw [show f + (k4 + 3) = (f + 2 + k4) + 1 by omega, hLL, x4, show f + 2 = (f + 1) + 1 by omega, hC3, y2]
          show mo_bi (mf_288_67 N (Int32.ofNat W.length) (Int32.ofNat 3) s7) _ = _
          rw [hT]
          exact LL_f (N := N) v6 ⟨v1, v2⟩
    · refine Or.inr ⟨t4, s4, k4 + 1, by rw [x1]; rfl, by omega, fun f => ?_, x4, (a6.tr c2).pre x5⟩
      rw [← Nat.add_assoc, hLL]
      exact x3 f
  · obtain ⟨x, y, v1, v2, v3, v4, v5, v6, v7⟩ := a3
    obtain ⟨s2, b1, b2, b3, b4, b5⟩ := r_waitF (N := N) (k := 3) (a := 0) (q := (TL b n)[i].2.2.2.1) h a5 (by omega) (by decide)
    refine Or.inr ⟨t1, s2, 2, ?_, by omega, fun f => ?_, pF.post ⟨x, y, v1, v2, v3, v4, v5, v6, v7⟩ b3 b4, a4.post b2 (a4.2.2.1.kp b5)⟩
    · unfold cf_190_131
      simp (disch := omega) only [ev_S, ev_C, ↓reduceIte, Nat.reduceEqDiff, Nat.reduceLeDiff, Nat.reduceAdd, Nat.reduceMul, Nat.reduceSub, reduceCtorEq, l32_0, l32_1, l32_2, l32_3, l32_4, l32_5, l32_6, l32_7, l32_8, l32_9, l32_10, l32_11, l32_12, l32_13, l32_14, l32_15, l32_16, l32_17, l32_18, l32_19, l32_20, l32_21, l32_22, l32_23, l32_24, l32_25, l32_26, l32_27, l32_28, l32_29, l32_33, l32_40, l32_41, l32_44, l32_45, l32_59, l32_61, l32_91, l32_93, l32_123, l32_125, a1]
      rfl
    · rw [show f + 2 = (f + 1) + 1 by omega, LL_0 h9, hst]
      unfold mf_286_89 mf_286_95 mf_286_102
      simp (disch := omega) only [ev_S, ev_P, ↓reduceIte, Nat.reduceEqDiff, Nat.reduceLeDiff, Nat.reduceAdd, Nat.reduceMul, Nat.reduceSub, reduceCtorEq, l32_0, l32_1, l32_2, l32_3, l32_4, l32_5, l32_6, l32_7, l32_8, l32_9, l32_10, l32_11, l32_12, l32_13, l32_14, l32_15, l32_16, l32_17, l32_18, l32_19, l32_20, l32_21, l32_22, l32_23, l32_24, l32_25, l32_26, l32_27, l32_28, l32_29, l32_33, l32_40, l32_41, l32_44, l32_45, l32_59, l32_61, l32_91, l32_93, l32_123, l32_125, a2, b1]
      exact LL_f (N := N) (b3.trans v6) ⟨v1, v2⟩
end ATG
