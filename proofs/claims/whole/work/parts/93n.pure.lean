/-! ===== PURE: statements (13): for ===== -/
section FOR
variable {N : Nat} {X : Nat → Option zz_C} {t t' t1 t2 : cS} {s s' s1 s2 : mS} {b : Nat → Nat} {n p e i i' op op' D D' : Nat} {code code1 code2 l : List Ins} {vs vs' : List (List Nat)} {cl : List Cn} {W : List Wt} {cu cu' : List Nat} {fs fs' : Nat × Nat × Nat} {Bs : List (Int32 × Int32 × Int32)} {a m z : Nat} {c c' : Ins}
/-- a word is passed -/
theorem PE.wrd {w : Nat} (hN : 170000 ≤ N) (hX : oX N X) (hw : w < 41) (h : PE b n p e i op D code code1 vs cl W cu fs t s) : (∃ t' s', cf_200 N X (zz_out + (w + 1)) t = some (t', .inl none) ∧ mf_269 N (Int32.ofNat w) s = some (s', none) ∧ PE b n p e (i + 1) op (D + 1) code code1 vs cl W cu fs t' s' ∧ FR p e t t' s s') ∨ (∃ t' s', cf_200 N X (zz_out + (w + 1)) t = some (t', .inr ()) ∧ mf_269 N (Int32.ofNat w) s = some (s', none) ∧ pF t' s' ∧ FX p e t t' s s') := by
  rcases p_word (N := N) (X := X) hN hX hw h.1 with ⟨t', s', a1, a2, a3, a4, a5⟩ | ⟨t', s', a1, a2, a3, a4, a5⟩
  · obtain ⟨b1, b2⟩ := h.mv a3 (Nat.le_succ i) a4 a5
    exact Or.inl ⟨t', s', a1, a2, by rw [show D + 1 = D + (i + 1 - i) by omega]; exact b1, b2⟩
  · exact Or.inr ⟨t', s', a1, a2, a3, ⟨a4.mono eP_Q (fun _ z => z.elim), fPs.Q a5, h.oB.kp (a5.1 28 (by omega)), h.szF a4⟩⟩
theorem PE.okA (h : PE b n p e i op D code code1 vs cl W cu fs t s) (h1 : fs.1 ≤ m) (h2 : m < code.length) : okI vs.length (code.getD m dI) := by
  refine h.2.2.2.2.2.2.2.2.2.1.2.2.1 _ ?_
  rw [List.getD_eq_getElem?_getD, List.getElem?_eq_getElem h2]
  show code[m] ∈ _
  have e1 : code[m] = (code.drop fs.1)[m - fs.1]'(by rw [List.length_drop]; omega) := by
    rw [List.getElem_drop]
    congr 1
    omega
  rw [e1]
  exact List.getElem_mem _
theorem PE.f1 (h : PE b n p e i op D code code1 vs cl W cu fs t s) : fs.1 ≤ code.length := h.2.2.2.2.2.2.2.2.2.1.1
/-- behind a fault -/
theorem r_210F {m : Nat} {x1 x3 : Int32} (h : fU e m s) (hm : m ≤ 2900) : ∃ s', mf_279_210 N x1 x3 s = some (s', none) ∧ tl e s s' := by
  obtain ⟨s1, a1, a2, a3⟩ := r_orderF (N := N) (x1 := Int32.ofNat 17) (x2 := Int32.ofNat 0) (x3 := Int32.ofNat 0) (x4 := x1) h
  obtain ⟨s2, b1, b2, b3⟩ := r_orderF (N := N) (x1 := Int32.ofNat 18) (x2 := Int32.ofNat 0) (x3 := x3) (x4 := x1) (a3 (by omega))
  obtain ⟨s3, c1, c2⟩ := r_blockF (N := N) (x1 := Int32.ofNat 4) (x2 := Int32.ofNat (ob0 e + (m + 1))) (x3 := Int32.ofNat (ob0 e + (m + 1))) (b3 (by omega))
  refine ⟨s3, ?_, a2.tr (b2.tr c2)⟩
  unfold mf_279_210 mf_279_219 mf_279_229 mf_279_240 mf_279_318
  simp (disch := omega) only [ev_S, ev_P, ↓reduceIte, Nat.reduceEqDiff, Nat.reduceLeDiff, Nat.reduceAdd, Nat.reduceMul, Nat.reduceSub, reduceCtorEq, l32_0, l32_1, l32_2, l32_3, l32_4, l32_5, l32_6, l32_7, l32_8, l32_9, l32_10, l32_11, l32_12, l32_13, l32_14, l32_15, l32_16, l32_17, l32_18, l32_19, l32_20, l32_21, l32_22, l32_23, l32_24, l32_25, l32_26, l32_27, l32_28, l32_29, l32_33, l32_40, l32_41, l32_44, l32_45, l32_59, l32_61, l32_91, l32_93, l32_123, l32_125, a1, b1, c1]
theorem r_205F {m : Nat} {x1 x3 : Int32} (hN : 170000 ≤ N) (h : fU e m s) (hm : m ≤ 2900) : ∃ s', mf_279_205 N x1 x3 s = some (s', none) ∧ tl e s s' := by
  obtain ⟨x, hx1, hx2, h9⟩ := h.1
  obtain ⟨s1, a1, a2⟩ := r_210F (N := N) (x1 := x1) (x3 := x3) (h.e44 (x := 0)) hm
  refine ⟨s1, ?_, tl_44.tr a2⟩
  unfold mf_279_205
  rw [r_exprF hN h9 ⟨hx1, hx2⟩]
  exact a1
theorem r_199F {m : Nat} {x1 x3 : Int32} (hN : 170000 ≤ N) (h : fU e m s) (hm : m ≤ 2900) : ∃ s', mf_279_199 N x1 x3 s = some (s', none) ∧ tl e s s' := by
  obtain ⟨x, hx1, hx2, h9⟩ := h.1
  obtain ⟨s1, a1, a2⟩ := r_205F (x1 := x1) (x3 := x3) hN h hm
  refine ⟨s1, ?_, a2⟩
  unfold mf_279_199
  rw [r_wordF h9 ⟨hx1, hx2⟩]
  exact a1
/-- for -/
theorem p_for {F : Nat} {pl : Int32} (hN : 170000 ≤ N) (hX : oX N X) (hY : oY X) (hS : SSt N X b n p e F) (hF : 3 * (10 - op) ≤ F) (h : PE b n p e i op D code code vs cl W (5 :: cu) fs t s) (hfs : fs.2.1 = code.length) (hwn : rWn s) (hb : rB s Bs) (hB : Bs.length ≤ op ∧ nF cu + 1 ≤ op) (hk : ∀ hi : i < (TL b n).length, (TL b n)[i].1 = 3) : SQ N b n p e i op (D + 1) code cu fs Bs t s (cf_184 N X (cf_S1 N X (F + 1)) pl t) (mf_279_191 N pl s) := by
  obtain ⟨hi, e5, e6, e7, hkk, ho, he, hlt, hll⟩ := h.1.now
  obtain ⟨t1, s1, a1, a2, a3, a4, a5⟩ := h.adv (N := N) (X := X) hN (fun _ => by have := hk hi; omega)
  have f1 : FR p e t t1 s s1 := ⟨a4, a5⟩
  have hp : (p = 12 ∨ p = 21) = True := eq_true a3.2.1.2.1
  rcases a3.nam (N := N) (X := X) hN with ⟨r, t2, s2, vs2, b1, b2, b3, b4, b5, b6⟩ | ⟨t2, s2, b1, b2, b3, b4, b5⟩
  · have f2 := f1.tr b6
    have hR0 : cf_184 N X (cf_S1 N X (F + 1)) pl t = ko_call 5 (cf_200 N X (zz_out + 6) t2) (fun g1 v1 => co_v v1 (cf_184_19 N X (cf_S1 N X (F + 1)) pl (cv r) g1)) := by
      unfold cf_184 cf_184_0 cf_184_7 cf_184_11
      simp (disch := omega) only [ev_S, ev_C, ↓reduceIte, Nat.reduceEqDiff, Nat.reduceLeDiff, Nat.reduceAdd, Nat.reduceMul, Nat.reduceSub, reduceCtorEq, l32_0, l32_1, l32_2, l32_3, l32_4, l32_5, l32_6, l32_7, l32_8, l32_9, l32_10, l32_11, l32_12, l32_13, l32_14, l32_15, l32_16, l32_17, l32_18, l32_19, l32_20, l32_21, l32_22, l32_23, l32_24, l32_25, l32_26, l32_27, l32_28, l32_29, l32_33, l32_40, l32_41, l32_44, l32_45, l32_59, l32_61, l32_91, l32_93, l32_123, l32_125, a1, b1]
    have hM0 : mf_279_191 N pl s = mo_bv (mf_269 N (Int32.ofNat 5) s2) (fun s1 => mf_279_205 N pl (Int32.ofNat r) s1) := by
      unfold mf_279_191 mf_279_195
      simp (disch := omega) only [ev_S, ev_P, ↓reduceIte, Nat.reduceEqDiff, Nat.reduceLeDiff, Nat.reduceAdd, Nat.reduceMul, Nat.reduceSub, reduceCtorEq, l32_0, l32_1, l32_2, l32_3, l32_4, l32_5, l32_6, l32_7, l32_8, l32_9, l32_10, l32_11, l32_12, l32_13, l32_14, l32_15, l32_16, l32_17, l32_18, l32_19, l32_20, l32_21, l32_22, l32_23, l32_24, l32_25, l32_26, l32_27, l32_28, l32_29, l32_33, l32_40, l32_41, l32_44, l32_45, l32_59, l32_61, l32_91, l32_93, l32_123, l32_125, a2, b2]
      rfl
    rw [hR0, hM0]
    rcases b4.wrd (N := N) (X := X) (w := 5) hN hX (by decide) with ⟨t3, s3, c1, c2, c3, c4⟩ | ⟨t3, s3, c1, c2, c3, c4⟩
    · have c1 : cf_200 N X (zz_out + 6) t2 = some (t3, .inl none) := c1
      rw [c1, c2]
      have f3 := f2.tr c4
      have hR1 : ko_call 5 (some (t3, .inl none)) (fun g1 v1 => co_v v1 (cf_184_19 N X (cf_S1 N X (F + 1)) pl (cv r) g1)) = ko_call 5 (cf_S0 N X 150 186 [.int (Int32.ofNat 0)] t3) (fun g1 v1 => co_v v1 (cf_184_24 N X (cf_S1 N X (F + 1)) pl (cv r) g1)) := rfl
      have hM1 : mo_bv (some (s3, none)) (fun s1 => mf_279_205 N pl (Int32.ofNat r) s1) = mo_bv (mf_285 N (Int32.ofNat 0) s3) (fun s1 => mf_279_210 N pl (Int32.ofNat r) s1) := rfl
      rw [hR1, hM1]
      rcases p_exp hN hX hY c3 (hwn.kp f3.2) (by omega) with ⟨t4, s4, i4, seg4, vs4, cl4, d1, d2, d3, dv, d4, d5⟩ | ⟨t4, s4, d1, d2, d3, d4⟩
      · rw [d1, d2]
        have f4 := f3.tr d5
        obtain ⟨t5, s5, g1, g2, g3, g4, g5⟩ := d4.bo (N := N) (X := X) (D' := D + 2) (cu' := 2 :: cu) (c := (17, 0, 0, 0, pl, 0, 0)) (k := Int32.ofNat 6) (a := Int32.ofNat 0) (v := pl) (x1 := Int32.ofNat 17) (x2 := Int32.ofNat 0) (x3 := Int32.ofNat 0) (x4 := pl) rfl rfl (Or.inr (Or.inl (Nat.zero_le _))) (by show (if nF cu < 10 then some (2 :: cu) else none) = _; rw [if_pos (by have := h.1.2.2.2.1; omega)]) (by unfold okI; simp) (by omega) (Or.inl (Nat.le_refl 1))
        have hnE := g3.nj.2
        rw [hfs] at hnE
        generalize hE : code ++ seg4 ++ [((17, 0, 0, 0, pl, 0, 0) : Ins)] = codeE at *
        have hpE : codeE = code ++ (seg4 ++ [((17, 0, 0, 0, pl, 0, 0) : Ins)]) := by rw [← hE, List.append_assoc]
        have hlE : code.length ≤ codeE.length := by
          rw [hpE, List.length_append]
          omega
        obtain ⟨t6, t7, s7, u1, u2, u3, u4, u5, u6, u7⟩ := g3.bo2 (N := N) (X := X) (js := codeE.length + 1) (D' := D + 1) (cu' := 5 :: 2 :: cu) (c := (18, unk, r, 0, pl, 0, 0)) (k1 := Int32.ofNat 27) (a1 := Int32.ofNat 0) (v1 := pl) (k2 := Int32.ofNat 2) (a2 := cv r) (v2 := pl) (x1 := Int32.ofNat 18) (x2 := Int32.ofNat 0) (x3 := Int32.ofNat r) (x4 := pl) (by simp) (Or.inr rfl) rfl rfl (Or.inl rfl) rfl (by unfold okI; simp; omega) (by omega) (Or.inl (Nat.le_refl 1))
        have f7 : FR p e t t7 s s7 := f4.tr (g4.tr u6)
        have hP4 : kP t4 2 1 = some p := d4.2.1.1
        have hP5 : kP t5 2 1 = some p := g3.2.1.1
        have hR2 : ko_call 5 (some (t4, .inl none)) (fun g1 v1 => co_v v1 (cf_184_24 N X (cf_S1 N X (F + 1)) pl (cv r) g1)) = ko_call 5 (cf_S1 N X (F + 1) 176 [] t7) (fun g1 v1 => co_v v1 (cf_184_63 N X (cf_S1 N X (F + 1)) pl (Int32.ofNat (cx codeE)) g1)) := by
          show cf_184_24 N X (cf_S1 N X (F + 1)) pl (cv r) t4 = _
          unfold cf_184_24 cf_184_35 cf_184_47 cf_184_58
          simp (disch := omega) only [ev_S, ev_C, ↓reduceIte, Nat.reduceEqDiff, Nat.reduceLeDiff, Nat.reduceAdd, Nat.reduceMul, Nat.reduceSub, reduceCtorEq, l32_0, l32_1, l32_2, l32_3, l32_4, l32_5, l32_6, l32_7, l32_8, l32_9, l32_10, l32_11, l32_12, l32_13, l32_14, l32_15, l32_16, l32_17, l32_18, l32_19, l32_20, l32_21, l32_22, l32_23, l32_24, l32_25, l32_26, l32_27, l32_28, l32_29, l32_33, l32_40, l32_41, l32_44, l32_45, l32_59, l32_61, l32_91, l32_93, l32_123, l32_125, hP4, hp, g1, hP5, u1, u2, u3]
        have hM2 : mo_bv (some (s4, none)) (fun s1 => mf_279_210 N pl (Int32.ofNat r) s1) = mo_bv (mf_276 N (Int32.ofNat 4) (Int32.ofNat (ob0 e + rl codeE)) (Int32.ofNat (ob0 e + rl codeE)) s7) (fun s => some (s, none)) := by
          show mf_279_210 N pl (Int32.ofNat r) s4 = _
          unfold mf_279_210 mf_279_219 mf_279_229
          simp (disch := omega) only [ev_S, ev_P, ↓reduceIte, Nat.reduceEqDiff, Nat.reduceLeDiff, Nat.reduceAdd, Nat.reduceMul, Nat.reduceSub, reduceCtorEq, l32_0, l32_1, l32_2, l32_3, l32_4, l32_5, l32_6, l32_7, l32_8, l32_9, l32_10, l32_11, l32_12, l32_13, l32_14, l32_15, l32_16, l32_17, l32_18, l32_19, l32_20, l32_21, l32_22, l32_23, l32_24, l32_25, l32_26, l32_27, l32_28, l32_29, l32_33, l32_40, l32_41, l32_44, l32_45, l32_59, l32_61, l32_91, l32_93, l32_123, l32_125, g2, u4]
          rfl
        rw [hR2, hM2]
        have w7 : rWn s7 := hwn.kp f7.2
        have rb7 : rB s7 Bs := hb.kp f7.2
        rcases p_blk (x1 := Int32.ofNat 4) (x2 := Int32.ofNat (ob0 e + rl codeE)) (x3 := Int32.ofNat (ob0 e + rl codeE)) noX_2 hN hS hF u5 w7 rb7 ⟨hB.1, by first | exact hB.2 | omega⟩ with ⟨t8, s0, s8, k8, i8, segB, vs8, cl8, W8, y1, y2, y3, y4, y5, y6, y7, y8, y9⟩ | ⟨t8, s0, s8, k8, y1, y2, y3, y4, y5, y6⟩
        · rw [y1, y2]
          obtain ⟨q1, q2, q3, q4, q5⟩ := y7.close (N := N) (by omega)
          rw [if_neg (by decide), if_neg (by decide), if_pos (by decide)] at q5
          have y6 := y6.kS q2
          have q3 : (mI s8 37 (Int32.ofNat Bs.length)).2.2.1 36 Bs.length = Int32.ofNat (ob0 e + rl codeE) := q3
          have f8 : FRs p e t t8 s (mI s8 37 (Int32.ofNat Bs.length)) := f7.S.tr (y9.tr ⟨gL.rf, fBk.S q2⟩)
          have h37 : (mI s8 37 (Int32.ofNat Bs.length)).1 37 = Int32.ofNat Bs.length := rfl
          generalize hs9 : mI s8 37 (Int32.ofNat Bs.length) = s9 at *
          generalize hB' : codeE ++ [((18, unk, r, 0, pl, 0, 0) : Ins)] ++ segB = codeB at *
          have hpB : codeB = codeE ++ ([((18, unk, r, 0, pl, 0, 0) : Ins)] ++ segB) := by rw [← hB', List.append_assoc]
          have hlB : codeE.length + 1 ≤ codeB.length := by
            rw [hpB, List.length_append, List.length_append, List.length_singleton]
            omega
          have hP8 : kP t8 2 1 = some p := y6.2.1.1
          obtain ⟨hl1, hl2⟩ := y6.len
          have hrl := y6.rle
          have ho4 : ob0 e ≤ 4000 := by unfold ob0; omega
          have tC : cI codeB (posC codeB codeB.length) (14, codeE.length, 1, 0, pl, 0, 0) = [(Int32.ofNat 4, Int32.ofNat (cx codeE), pl)] := by
            show [(_, tgC codeB codeE.length 0, pl)] = _
            unfold tgC
            rw [if_neg (by show ¬ codeE.length = 99999; omega), hpB, posC_e]
            rfl
          have tR : rI e codeB (14, codeE.length, 1, 0, pl, 0, 0) = [(Int32.ofNat 15, Int32.ofNat (ob0 e + rl codeE), Int32.ofNat 0, 0, Int32.ofNat 0)] := by
            show [(_, tgR e codeB codeE.length 0, _)] = _
            unfold tgR
            rw [if_neg (by show ¬ codeE.length = 99999; omega), hpB, posR_e]
            rfl
          obtain ⟨t10, s10, v1, v2, v3, v4, v5⟩ := PEg.bo (N := N) (X := X) (js := codeB.length + 1) (D' := D + 2) (cu' := cu) y6 (fun z => absurd z (by simp)) (Or.inr rfl) tC tR (Or.inr (Or.inl (by show codeE.length ≤ codeB.length; omega))) rfl (by unfold okI; simp) (by omega) (Or.inl (Nat.le_refl 1))
          have hcB : codeB.getD codeE.length dI = (18, unk, r, 0, pl, 0, 0) := by
            rw [← hB', getD_appl (by rw [List.length_append, List.length_singleton]; omega)]
            exact getD_last
          have hoB := y6.okA (m := codeE.length) (Nat.le_trans h.f1 hlE) (by omega)
          rw [hcB] at hoB
          have hr8 : r < 8 + vs8.length := hoB.1 (by simp)
          have hlyB := y6.ly
          generalize hC' : codeB ++ [((14, codeE.length, 1, 0, pl, 0, 0) : Ins)] = codeC at *
          have hlC : codeC.length = codeB.length + 1 := by rw [← hC', List.length_append, List.length_singleton]
          have hpC : codeC = codeE ++ ([((18, unk, r, 0, pl, 0, 0) : Ins)] ++ segB ++ [((14, codeE.length, 1, 0, pl, 0, 0) : Ins)]) := by
            rw [← hC', hpB, List.append_assoc]
          have hcd : codeC.getD codeE.length dI = (18, unk, r, 0, pl, 0, 0) := by
            rw [← hC', getD_appl (by omega)]
            exact hcB
          obtain ⟨t11, x1, x2, x3⟩ := PE.tgt (N := N) (X := X) (m := codeE.length) v3 (Or.inr (Or.inr (Or.inl rfl))) (by omega) hcd (by show codeE.length < codeB.length + 1; omega) (by unfold okI; simp; omega)
          have pC : posC codeC codeE.length = cx codeE := by rw [hpC]; exact posC_e
          have pR : posR codeC codeE.length = rl codeE := by rw [hpC]; exact posR_e
          rw [pC] at x1
          rw [pR] at x2 x3
          have hP10 : kP t10 2 1 = some p := v3.2.1.1
          have hlen := PE.hlen (N := N) (X := X) v3
          have hh6 := PE.hher (N := N) v3
          have hrE : rl codeE ≤ rl codeB := by
            rw [hpB, rl_app]
            omega
          obtain ⟨seg, hseg⟩ := pre_set (c' := (18, codeC.length, r, 0, pl, 0, 0)) (m := codeE.length) (code := code) (code2 := codeC) (by rw [hpC, hpE, List.append_assoc]) (by omega)
          rw [hseg] at x2
          have hls : (code ++ seg).length = codeB.length + 1 := by rw [← hseg, List.length_set, hlC]
          have hlyC : lyo codeC = some cu := PE.ly v3
          have hlyE : lyo codeE = some (2 :: cu) := g3.ly
          have okG : okJ codeC code.length codeB.length := okJ_at (q := 14) (j := codeE.length) (r := 1) (pl := pl) (L := 5 :: 2 :: cu) (cu := 2 :: cu) (by rw [← hC']; exact getD_last) (by decide) (by omega) (by rw [← hC', List.take_left]; exact hlyB) (by rw [take_pre hpC]; exact hlyE) (Or.inr (Or.inl ⟨rfl, Or.inl ⟨rfl, rfl⟩⟩))
          have J1 : JP codeE code.length codeE.length := JP.no hnE
          have y8 : JP codeB (codeE.length + 1) codeB.length := by
            have : (codeE ++ [((18, unk, r, 0, pl, 0, 0) : Ins)]).length = codeE.length + 1 := by rw [List.length_append, List.length_singleton]
            rw [this] at y8
            exact y8
          have JF : JP (code ++ seg) code.length (code ++ seg).length := by
            rw [hls, ← hseg]
            refine JP.setx (by omega) (by rw [hcd]) (by unfold noJ; simp) (fun L => by rw [hcd]; rfl) (fun k k1 k2 k3 => ?_) (okJ_tgt (L := 2 :: cu) (Or.inr (Or.inr (Or.inl rfl))) (by omega) hcd (by omega) (by rw [take_pre hpC]; exact hlyE) hlyC (Or.inr (Or.inr (Or.inl ⟨rfl, rfl⟩))))
            by_cases y : k < codeE.length
            · rw [hpC]
              exact (J1 k k1 y).app y
            · by_cases y2 : k = codeB.length
              · rw [y2]
                exact okG
              · rw [← hC']
                exact ((y8 k (by omega) (by omega)).lo (by omega)).app (by omega)
          refine Or.inl ⟨t11, s0, _, k8, i8, seg, vs8, cl8, W8, ?_, rfl, by omega, by omega, fun f => ?_, ?_, (q1.kp (fO.Q v5)).kp x3.2, JF, f8.tr (v4.S.tr x3.S)⟩
          · show cf_184_63 N X (cf_S1 N X (F + 1)) pl (Int32.ofNat (cx codeE)) t8 = _
            unfold cf_184_63 cf_184_73 cf_184_86 cf_184_89
            simp (disch := omega) only [ev_S, ev_C, ↓reduceIte, Nat.reduceEqDiff, Nat.reduceLeDiff, Nat.reduceAdd, Nat.reduceMul, Nat.reduceSub, reduceCtorEq, l32_0, l32_1, l32_2, l32_3, l32_4, l32_5, l32_6, l32_7, l32_8, l32_9, l32_10, l32_11, l32_12, l32_13, l32_14, l32_15, l32_16, l32_17, l32_18, l32_19, l32_20, l32_21, l32_22, l32_23, l32_24, l32_25, l32_26, l32_27, l32_28, l32_29, l32_33, l32_40, l32_41, l32_44, l32_45, l32_59, l32_61, l32_91, l32_93, l32_123, l32_125, hP8, hp, v1, hP10, hlen, x1]
          · rw [y5, q5]
            have e1 : mf_278_155 N (Int32.ofNat (ob0 e + rl codeE)) s9 = some (mA s10 24 (upd (s10.2.2.1 24) (ob0 e + rl codeE) (Int32.ofNat (ob0 e + rl codeC))), none) := by
              generalize ob0 e = o at *
              unfold mf_278_155 mf_278_172 mf_278_182
              simp (disch := omega) only [ev_S, ev_P, ↓reduceIte, Nat.reduceEqDiff, Nat.reduceLeDiff, Nat.reduceAdd, Nat.reduceMul, Nat.reduceSub, reduceCtorEq, l32_0, l32_1, l32_2, l32_3, l32_4, l32_5, l32_6, l32_7, l32_8, l32_9, l32_10, l32_11, l32_12, l32_13, l32_14, l32_15, l32_16, l32_17, l32_18, l32_19, l32_20, l32_21, l32_22, l32_23, l32_24, l32_25, l32_26, l32_27, l32_28, l32_29, l32_33, l32_40, l32_41, l32_44, l32_45, l32_59, l32_61, l32_91, l32_93, l32_123, l32_125, h37, q3, v2, hh6, l32_8000]
            rw [e1]
            rfl
          · rw [hls]
            refine (x2.dn (Nat.le_succ _)).fsx ⟨Nat.le_refl _, ?_⟩ x2.pa
            rw [hls]
            exact Nat.le_refl _
        · rw [y1, y2]
          exact Or.inr ⟨t8, s0, s8, k8, rfl, rfl, by omega, y4, y5, f7.S.pre y6⟩
      · obtain ⟨m, m1, m2⟩ := h.fU hb d3 (f3.pre d4)
        obtain ⟨s5, g1, g2⟩ := r_210F (N := N) (x1 := pl) (x3 := Int32.ofNat r) m2 (by omega)
        exact SQ.f1 hi (by rw [d1]; rfl) (by rw [d2]; exact g1) (d3.tl g2) ((f3.pre d4).S.tl g2)
    · have c1 : cf_200 N X (zz_out + 6) t2 = some (t3, .inr ()) := c1
      obtain ⟨m, m1, m2⟩ := h.fU hb c3 (f2.pre c4)
      obtain ⟨s5, g1, g2⟩ := r_205F (x1 := pl) (x3 := Int32.ofNat r) hN m2 (by omega)
      exact SQ.f1 hi (by rw [c1]; rfl) (by rw [c2]; exact g1) (c3.tl g2) ((f2.pre c4).S.tl g2)
  · obtain ⟨m, m1, m2⟩ := h.fU hb b3 (f1.pre b4)
    obtain ⟨s5, g1, g2⟩ := r_199F (x1 := pl) (x3 := Int32.ofNat 0) hN m2 (by omega)
    have b2 : mf_275 N s1 = some (s2, some (.int (Int32.ofNat 0))) := b2
    refine SQ.f1 hi ?_ ?_ (b3.tl g2) ((f1.pre b4).S.tl g2)
    · unfold cf_184 cf_184_0 cf_184_7
      simp (disch := omega) only [ev_S, ev_C, ↓reduceIte, Nat.reduceEqDiff, Nat.reduceLeDiff, Nat.reduceAdd, Nat.reduceMul, Nat.reduceSub, reduceCtorEq, l32_0, l32_1, l32_2, l32_3, l32_4, l32_5, l32_6, l32_7, l32_8, l32_9, l32_10, l32_11, l32_12, l32_13, l32_14, l32_15, l32_16, l32_17, l32_18, l32_19, l32_20, l32_21, l32_22, l32_23, l32_24, l32_25, l32_26, l32_27, l32_28, l32_29, l32_33, l32_40, l32_41, l32_44, l32_45, l32_59, l32_61, l32_91, l32_93, l32_123, l32_125, a1, b1]
      rfl
    · unfold mf_279_191 mf_279_195
      simp (disch := omega) only [ev_S, ev_P, ↓reduceIte, Nat.reduceEqDiff, Nat.reduceLeDiff, Nat.reduceAdd, Nat.reduceMul, Nat.reduceSub, reduceCtorEq, l32_0, l32_1, l32_2, l32_3, l32_4, l32_5, l32_6, l32_7, l32_8, l32_9, l32_10, l32_11, l32_12, l32_13, l32_14, l32_15, l32_16, l32_17, l32_18, l32_19, l32_20, l32_21, l32_22, l32_23, l32_24, l32_25, l32_26, l32_27, l32_28, l32_29, l32_33, l32_40, l32_41, l32_44, l32_45, l32_59, l32_61, l32_91, l32_93, l32_123, l32_125, a2, b2, g1]
end FOR
