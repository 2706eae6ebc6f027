/-! ===== PURE: statements (15): try, the whole; which statement ===== -/
section TRW
variable {N : Nat} {X : Nat → Option zz_C} {t t' t1 t2 : cS} {s s' s1 s2 : mS} {b : Nat → Nat} {n p e i i' op op' D D' : Nat} {code code1 code2 l : List Ins} {vs vs' : List (List Nat)} {cl : List Cn} {W : List Wt} {cu cu' : List Nat} {fs fs' : Nat × Nat × Nat} {Bs : List (Int32 × Int32 × Int32)} {a m z : Nat} {c c' : Ins}
/-- try -/
theorem p_try {F : Nat} (hsl : noX cu) (hN : 170000 ≤ N) (hX : oX N X) (hS : SSt N X b n p e F) (hF : 3 * (10 - op) ≤ F) (h : PE b n p e i op D code code vs cl W (5 :: cu) fs t s) (hwn : rWn s) (hb : rB s Bs) (hB : Bs.length ≤ op ∧ nF cu + 1 ≤ op) (hk : ∀ hi : i < (TL b n).length, (TL b n)[i].1 = 3) : SQ N b n p e i op (D + 1) code cu fs Bs t s (cf_185 N X (cf_S1 N X (F + 1)) t) (mf_279_249 N s) := by
  obtain ⟨hi, e5, e6, e7, hkk, ho, he, hlt, hll⟩ := h.1.now
  obtain ⟨t1, s1, a1, a2, a3, a4, a5⟩ := h.adv (N := N) (X := X) hN (fun _ => by have := hk hi; omega)
  have f1 : FR p e t t1 s s1 := ⟨a4, a5⟩
  have hp : (p = 12 ∨ p = 21) = True := eq_true a3.2.1.2.1
  have hP1 : kP t1 2 1 = some p := a3.2.1.1
  obtain ⟨t2, s2, b1, b2, b3, b4, b5⟩ := PEg.bo (N := N) (X := X) (js := code.length + 1) (D' := D) (cu' := 3 :: cu) (c := (23, unk, 0, 0, 0, 0, 0)) (k := Int32.ofNat 10) (a := Int32.ofNat 0) (v := Int32.ofNat 0) (x1 := Int32.ofNat 23) (x2 := Int32.ofNat 0) (x3 := Int32.ofNat 0) (x4 := Int32.ofNat 0) a3 (fun z => absurd z (by simp)) (Or.inr rfl) rfl rfl (Or.inl rfl) (by show (if nF cu < 10 then some (3 :: cu) else none) = _; rw [if_pos (by have := h.1.2.2.2.1; omega)]) (by unfold okI; simp; omega) (by omega) (Or.inl (Nat.le_refl 1))
  have f2 := f1.tr b4
  have w2 : rWn s2 := hwn.kp f2.2
  have rb2 : rB s2 Bs := hb.kp f2.2
  have hR0 : cf_185 N X (cf_S1 N X (F + 1)) t = ko_call 5 (cf_S1 N X (F + 1) 176 [] t2) (fun g1 v1 => co_v v1 (cf_185_23 N X (cf_S1 N X (F + 1)) (Int32.ofNat (cx code)) g1)) := by
    unfold cf_185 cf_185_0 cf_185_7 cf_185_18
    simp (disch := omega) only [ev_S, ev_C, ↓reduceIte, Nat.reduceEqDiff, Nat.reduceLeDiff, Nat.reduceAdd, Nat.reduceMul, Nat.reduceSub, reduceCtorEq, l32_0, l32_1, l32_2, l32_3, l32_4, l32_5, l32_6, l32_7, l32_8, l32_9, l32_10, l32_11, l32_12, l32_13, l32_14, l32_15, l32_16, l32_17, l32_18, l32_19, l32_20, l32_21, l32_22, l32_23, l32_24, l32_25, l32_26, l32_27, l32_28, l32_29, l32_33, l32_40, l32_41, l32_44, l32_45, l32_59, l32_61, l32_91, l32_93, l32_123, l32_125, a1, hP1, hp, b1]
  have hM0 : mf_279_249 N s = mo_bv (mf_276 N (Int32.ofNat 5) (Int32.ofNat (ob0 e + rl code)) (Int32.ofNat 0) s2) (fun s => some (s, none)) := by
    unfold mf_279_249 mf_279_253
    simp (disch := omega) only [ev_S, ev_P, ↓reduceIte, Nat.reduceEqDiff, Nat.reduceLeDiff, Nat.reduceAdd, Nat.reduceMul, Nat.reduceSub, reduceCtorEq, l32_0, l32_1, l32_2, l32_3, l32_4, l32_5, l32_6, l32_7, l32_8, l32_9, l32_10, l32_11, l32_12, l32_13, l32_14, l32_15, l32_16, l32_17, l32_18, l32_19, l32_20, l32_21, l32_22, l32_23, l32_24, l32_25, l32_26, l32_27, l32_28, l32_29, l32_33, l32_40, l32_41, l32_44, l32_45, l32_59, l32_61, l32_91, l32_93, l32_123, l32_125, a2, b2]
    rfl
  rw [hR0, hM0]
  rcases p_blk (x1 := Int32.ofNat 5) (x2 := Int32.ofNat (ob0 e + rl code)) (x3 := Int32.ofNat 0) noX_2 hN hS hF b3 w2 rb2 ⟨hB.1, by first | exact hB.2 | omega⟩ with ⟨t4, s0, s4, k4, i4, segB, vs4, cl4, W4, d1, d2, d3, d4, d5, d6, d7, d8, d9⟩ | ⟨t4, s0, s4, k4, d1, d2, d3, d4, d5, d6⟩
  · rw [d1, d2]
    obtain ⟨q1, q2, q3, q4, q5⟩ := d7.close (N := N) (by omega)
    rw [if_neg (by decide), if_neg (by decide), if_neg (by decide), if_pos (by decide)] at q5
    have d6 := d6.kS q2
    have f4 : FRs p e t t4 s (mI s4 37 (Int32.ofNat Bs.length)) := f2.S.tr (d9.tr ⟨gL.rf, fBk.S q2⟩)
    generalize hs5 : mI s4 37 (Int32.ofNat Bs.length) = s5 at *
    generalize hB' : code ++ [((23, unk, 0, 0, 0, 0, 0) : Ins)] ++ segB = codeB at *
    have d8 : JP codeB (code.length + 1) codeB.length := by
      have : (code ++ [((23, unk, 0, 0, 0, 0, 0) : Ins)]).length = code.length + 1 := by rw [List.length_append, List.length_singleton]
      rw [this] at d8
      exact d8
    have d6 : PE b n p e i4 op (D + 2) codeB codeB vs4 cl4 W4 (3 :: cu) (fs.1, codeB.length, fs.2.2) t4 s5 := d6
    show SQ N b n p e i op (D + 1) code cu fs Bs t s (cf_185_23 N X (cf_S1 N X (F + 1)) (Int32.ofNat (cx code)) t4) (some (s0, none))
    obtain ⟨hi4, _, _, _, _, _, _, _, hll4⟩ := d6.1.now
    rcases p_tryE (N := N) (X := X) (rk := cf_S1 N X (F + 1)) (fs := fs) hN hX d6 h.f1 q1 hB'.symm h.ly d8 with ⟨t7, s7, codeD, vs7, y0, g1, g2, ⟨⟨lD, g0⟩, g3, g4, g5, g6, g7⟩, g8, g9, g10, g11⟩ | ⟨t7, s7, g1, g2, g3, g4⟩
    · rw [g1]
      have f7 := f4.tr g11.S
      have hR2 : cf_185_94 N X (cf_S1 N X (F + 1)) (Int32.ofNat (cx codeB)) y0 t7 = ko_call 5 (cf_S1 N X (F + 1) 176 [] t7) (fun g1 v1 => co_v v1 (cf_185_99 N X (cf_S1 N X (F + 1)) (Int32.ofNat (cx codeB)) g1)) := rfl
      rw [hR2]
      have hM2 : ∀ s8, mf_276 N (Int32.ofNat 6) (Int32.ofNat (ob0 e + rl codeB)) (Int32.ofNat 0) s7 = some (s8, none) → mf_278_6 N s4 = some (s8, none) := fun s8 hh => by
        rw [q5, g2, hh]
        rfl
      rcases p_blk (x1 := Int32.ofNat 6) (x2 := Int32.ofNat (ob0 e + rl codeB)) (x3 := Int32.ofNat 0) hsl hN hS hF g8 (FRs.wn f7.2 hwn) g9 ⟨hB.1, by first | exact hB.2 | omega⟩ with ⟨t8, u0, s8, k8, i8, seg8, vs8, cl8, W8, y1, y2, y3, y4, y5, y6, y7, y8, y9⟩ | ⟨t8, u0, s8, k8, y1, y2, y3, y4, y5, y6⟩
      · rw [y1]
        obtain ⟨v1, v2, v3, v4, v5⟩ := y7.close (N := N) (by omega)
        rw [if_neg (by decide), if_neg (by decide), if_neg (by decide), if_neg (by decide)] at v5
        have y6 := y6.kS v2
        have hP8 : kP t8 2 1 = some p := y6.2.1.1
        have f8 : FRs p e t t8 s (mI s8 37 (Int32.ofNat Bs.length)) := f7.tr (y9.tr ⟨gL.rf, fBk.S v2⟩)
        generalize hs9 : mI s8 37 (Int32.ofNat Bs.length) = s9 at *
        have hlt8 : codeB.length < (codeD ++ seg8).length := by rw [List.length_append, g3]; omega
        have hcB : code.length ≤ codeB.length := by rw [← hB', List.length_append, List.length_append]; omega
        have hpos : posC (codeD ++ seg8) codeB.length = cx codeB := by rw [posC_app (by omega)]; exact g6
        have hposR : posR (codeD ++ seg8) codeB.length = rl codeB := by rw [posR_app (by omega)]; exact g7
        obtain ⟨t9, s10, segF, w1, w2, w3', w4, w5, w6, w7⟩ := p_last (N := N) (X := X) (q := 24) (r := 0) (pl := 0) (x2 := Int32.ofNat (ob0 e + rl codeB)) (code := code) (code2 := codeD ++ seg8) (m := codeB.length) (l := lD ++ seg8) (fs := fs) y6 v1 (Or.inr rfl) (by rw [g0, List.append_assoc]) ⟨hcB, hlt8⟩ (by rw [getD_appl (by omega)]; exact g4) (fun k k1 k2 k3 => by
          by_cases y : k < codeD.length
          · exact (g10 k k1 y k3).app y
          · exact (y8 k (by omega) k2).lo (by omega)) (3 :: cu) (by rw [List.take_append_of_le_length (by omega)]; exact g5) (Or.inr (Or.inr (Or.inr (Or.inr ⟨rfl, rfl⟩)))) (by rw [hposR])
        rw [hpos] at w2
        refine Or.inl ⟨t9, s0, s10, k8 + k4, i8, segF, vs8, cl8, W8, ?_, rfl, by omega, by omega, fun f => ?_, w4.dn (by omega), w5, w6, f8.tr w7.S⟩
        · show cf_185_99 N X (cf_S1 N X (F + 1)) (Int32.ofNat (cx codeB)) t8 = _
          unfold cf_185_99 cf_185_111 cf_185_114
          simp (disch := omega) only [ev_S, ev_C, ↓reduceIte, Nat.reduceEqDiff, Nat.reduceLeDiff, Nat.reduceAdd, Nat.reduceMul, Nat.reduceSub, reduceCtorEq, l32_0, l32_1, l32_2, l32_3, l32_4, l32_5, l32_6, l32_7, l32_8, l32_9, l32_10, l32_11, l32_12, l32_13, l32_14, l32_15, l32_16, l32_17, l32_18, l32_19, l32_20, l32_21, l32_22, l32_23, l32_24, l32_25, l32_26, l32_27, l32_28, l32_29, l32_33, l32_40, l32_41, l32_44, l32_45, l32_59, l32_61, l32_91, l32_93, l32_123, l32_125, hP8, hp, w1, w2]
        · rw [← Nat.add_assoc, d5, hM2 u0 y2]
          show TW N (f + k8) u0 = _
          rw [y5, v5, w3']
          rfl
      · refine Or.inr ⟨t8, s0, s8, k8 + k4, by rw [y1]; rfl, rfl, by omega, fun f => ?_, y5, f7.pre y6⟩
        rw [← Nat.add_assoc, d5, hM2 u0 y2]
        exact y4 f
    · refine Or.inr ⟨t7, s0, s7, 1 + k4, g1, rfl, by omega, fun f => ?_, g3, f4.pre g4⟩
      rw [← Nat.add_assoc, d5, q5, g2]
      exact TW_F g3
  · rw [d1, d2]
    exact Or.inr ⟨t4, s0, s4, k4, rfl, rfl, by omega, d4, d5, f2.S.pre d6⟩
/-- a statement without a block is a statement -/
theorem SR.q {R : kO} {M : mO} (hb : rB s Bs) (hi : i < (TL b n).length) (hfs : fs.2.1 = code.length) (h : SR b n p e i op D code cu fs t s R M) : SQ N b n p e i op D code cu fs Bs t s R M := by
  rcases h with ⟨t', s', i', seg, vs', cl', W', a1, a2, a3, a4, a5⟩ | ⟨t', s', a1, a2, a3, a4⟩
  · have hn := a4.nj.2
    rw [hfs] at hn
    refine Or.inl ⟨t', s', s', 0, i', seg, vs', cl', W', a1, a2, a3, by omega, fun f => rfl, a4.fsx ⟨a4.nj.1, Nat.le_refl _⟩ a4.pa, hb.kp a5.2, JP.no hn, a5.S⟩
  · exact SQ.f1 hi a1 a2 a3 a4
/-- which of the seven, as the class's table has it -/
def swn (w : Nat) : Nat := if w = 1 then 1 else if w = 3 then 2 else if w = 4 then 3 else if w = 6 then 4 else if w = 7 then 5 else if w = 8 then 6 else if w = 9 then 7 else 0
/-- the class's table as it is: other switches have their numbers there too -/
def swm (w : Nat) : Nat := [0, 1, 0, 2, 3, 0, 4, 5, 6, 7, 0, 8, 9, 10, 25, 11, 0, 12, 13, 14, 15, 16, 17, 18, 19, 20, 21, 22, 23, 24, 26, 27, 28, 29, 30, 31, 32, 33, 34, 0, 0].getD w 0
theorem swm_n : ∀ w, w < 41 → swm w ≤ 34 ∧ (swm w ≤ 7 → swn w = swm w) ∧ (8 ≤ swm w → swn w = 0) := by decide
/-- what is asked of the class's table -/
def oZ (X : Nat → Option zz_C) : Prop := ∀ w, w < 41 → hgi X [] (zz_out + (w + 1)) 20 3 = some (Int32.ofNat w) ∧ hai X [] (zz_out + 43) (Int32.ofNat w) = some (Int32.ofNat (swm w))
theorem SQ.pre' {i0 : Nat} {code0 seg0 : List Ins} {t0 : cS} {s0 : mS} {R : kO} {M : mO} (f : FR p e t0 t s0 s) (hi : i0 ≤ i) (hc : code = code0 ++ seg0) (hJ : JP code code0.length code.length) (h : SQ N b n p e i op D code cu fs Bs t s R M) : SQ N b n p e i0 op D code0 cu fs Bs t0 s0 R M := by
  subst hc
  rcases h with ⟨t', s1, s', k, i', seg, vs', cl', W', a1, a2, a3, a4, a5, a6, a7, a8, a9⟩ | ⟨t', s1, s', k, a1, a2, a3, a4, a5, a6⟩
  · refine Or.inl ⟨t', s1, s', k, i', seg0 ++ seg, vs', cl', W', a1, a2, by omega, by omega, a5, by rw [← List.append_assoc]; exact a6, a7, ?_, f.S.tr a9⟩
    rw [← List.append_assoc]
    exact (hJ.app (Nat.le_refl _)).cat a8 (by rw [List.length_append]; omega)
  · exact Or.inr ⟨t', s1, s', k, a1, a2, by omega, a4, a5, f.S.pre a6⟩
theorem SQ.st {R : kO} {M : mO} (hT : ∀ f, TW N (f + 1) s = mo_bv M (fun s1 => TW N f s1)) (h : SQ N b n p e i op D code cu fs Bs t s R M) : ST N b n p e i op D code cu fs Bs t s R := by
  rcases h with ⟨t', s0, s', k, i', seg, vs', cl', W', a1, a2, a3, a4, a5, a6, a7, a8, a9⟩ | ⟨t', s0, s', k, a1, a2, a3, a4, a5, a6⟩
  · refine Or.inl ⟨t', s', k + 1, i', seg, vs', cl', W', a1, a3, by omega, fun f => ?_, a6, a7, a8, a9⟩
    rw [← Nat.add_assoc, hT, a2]
    exact a5 f
  · refine Or.inr ⟨t', s', k + 1, a1, by omega, fun f => ?_, a5, a6⟩
    rw [← Nat.add_assoc, hT, a2]
    exact a4 f
end TRW
