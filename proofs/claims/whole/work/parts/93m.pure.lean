/-! ===== PURE: statements (12): if, the whole ===== -/
section IFW
variable {N : Nat} {X : Nat → Option zz_C} {t t' t1 t2 : cS} {s s' s1 s2 : mS} {b : Nat → Nat} {n p e i i' op op' D D' : Nat} {code code1 code2 l : List Ins} {vs vs' : List (List Nat)} {cl : List Cn} {W : List Wt} {cu cu' : List Nat} {fs fs' : Nat × Nat × Nat} {Bs : List (Int32 × Int32 × Int32)} {a m z : Nat} {c c' : Ins}
/-- the last target of a statement -/
theorem p_last {q r : Nat} {pl x2 : Int32} (h : PE b n p e i op D code2 code2 vs cl W cu (fs.1, code2.length, fs.2.2) t s) (hb : rB s Bs) (hq : q = 14 ∨ q = 24) (hp2 : code2 = code ++ l) (hm : code.length ≤ m ∧ m < code2.length) (hcd : code2.getD m dI = (q, unk, r, 0, pl, 0, 0)) (h0 : ∀ k, code.length ≤ k → k < code2.length → ¬ k = m → okJ code2 code.length k) (L : List Nat) (hL : lyo (code2.take m) = some L) (hj : jl (q, code2.length, r, 0, pl, 0, 0) L cu) (hx2 : x2 = Int32.ofNat (ob0 e + posR code2 m)) : ∃ t' s' seg, cf_203 N X p t = some (t, .inl (some (.int (Int32.ofNat (cx code2))))) ∧ cf_210 N X p (Int32.ofNat (posC code2 m)) (Int32.ofNat (cx code2)) t = some (t', .inl none) ∧ mf_278_239 N x2 s = some (s', none) ∧ PE b n p e i op D (code ++ seg) (code ++ seg) vs cl W cu (fs.1, (code ++ seg).length, fs.2.2) t' s' ∧ rB s' Bs ∧ JP (code ++ seg) code.length (code ++ seg).length ∧ FR p e t t' s s' := by
  subst hx2
  obtain ⟨hl1, hl2⟩ := h.len
  have hrl := h.rle
  have ho4 : ob0 e ≤ 4000 := by unfold ob0; omega
  obtain ⟨t7, u1, u2, u3⟩ := PE.tgt (N := N) (X := X) (m := m) h (by omega) hm.2 hcd hm.2 (by unfold okI; rcases hq with z | z <;> subst z <;> simp)
  have hher := h.hher (N := N)
  have hpr : posR code2 m ≤ rl code2 := by
    unfold posR rl
    have e1 : code2.map rlen = (code2.take m).map rlen ++ (code2.drop m).map rlen := by rw [← List.map_append, List.take_append_drop]
    rw [e1, List.sum_append]
    omega
  obtain ⟨seg, hseg⟩ := pre_set (c' := (q, code2.length, r, 0, pl, 0, 0)) (m := m) hp2 hm.1
  rw [hseg] at u2
  have hls : (code ++ seg).length = code2.length := by rw [← hseg, List.length_set]
  refine ⟨t7, _, seg, h.hlen, u1, ?_, by rw [hls]; exact u2, hb.kp u3.2, ?_, u3⟩
  · generalize posR code2 m = pm at *
    generalize ob0 e = o at *
    unfold mf_278_239 mf_278_248
    simp (disch := omega) only [ev_S, ev_P, ↓reduceIte, Nat.reduceEqDiff, Nat.reduceLeDiff, Nat.reduceAdd, Nat.reduceMul, Nat.reduceSub, reduceCtorEq, l32_0, l32_1, l32_2, l32_3, l32_4, l32_5, l32_6, l32_7, l32_8, l32_9, l32_10, l32_11, l32_12, l32_13, l32_14, l32_15, l32_16, l32_17, l32_18, l32_19, l32_20, l32_21, l32_22, l32_23, l32_24, l32_25, l32_26, l32_27, l32_28, l32_29, l32_33, l32_40, l32_41, l32_44, l32_45, l32_59, l32_61, l32_91, l32_93, l32_123, l32_125, hher, l32_8000]
  · rw [hls, ← hseg]
    have e0 : ((q, code2.length, r, (0 : Int32), pl, (0 : Int32), (0 : Int32)) : Ins).1 = (code2.getD m dI).1 := by rw [hcd]
    refine JP.setx hm.2 e0 (by unfold noJ; show ¬ ¬ (q = 13 ∨ q = 14 ∨ q = 18 ∨ q = 23 ∨ q = 24); omega) (fun L => by rw [hcd]; rcases hq with z | z <;> subst z <;> rfl) (fun k k1 k2 k3 => h0 k k1 k2 k3) (okJ_tgt (L := L) (by omega) hm.2 hcd (by omega) hL h.ly hj)
/-- if -/
theorem p_if {F : Nat} {pl : Int32} (hsl : noX cu) (hN : 170000 ≤ N) (hX : oX N X) (hY : oY X) (hS : SSt N X b n p e F) (hF : 3 * (10 - op) ≤ F) (h : PE b n p e i op D code code vs cl W (5 :: cu) fs t s) (hfs : fs.2.1 = code.length) (hwn : rWn s) (hb : rB s Bs) (hB : Bs.length ≤ op ∧ nF cu + 1 ≤ op) (hk : ∀ hi : i < (TL b n).length, (TL b n)[i].1 = 3) : SQ N b n p e i op (D + 1) code cu fs Bs t s (cf_181 N X (cf_S1 N X (F + 1)) pl t) (mf_279_114 N pl (Int32.ofNat 1) s) := by
  obtain ⟨hi, e5, e6, e7, hkk, ho, he, hlt, hll⟩ := h.1.now
  obtain ⟨t1, s1, a1, a2, a3, a4, a5⟩ := h.adv (N := N) (X := X) hN (fun _ => by have := hk hi; omega)
  have f1 : FR p e t t1 s s1 := ⟨a4, a5⟩
  have hp : (p = 12 ∨ p = 21) = True := eq_true a3.2.1.2.1
  have hh := a3.hher (N := N)
  have hM0 : mf_279_114 N pl (Int32.ofNat 1) s = mf_279_138 N pl (Int32.ofNat 1) (Int32.ofNat (ob0 e + rl code)) s1 := by
    unfold mf_279_114 mf_279_118 mf_279_122
    simp (disch := omega) only [ev_S, ev_P, ↓reduceIte, Nat.reduceEqDiff, Nat.reduceLeDiff, Nat.reduceAdd, Nat.reduceMul, Nat.reduceSub, reduceCtorEq, l32_0, l32_1, l32_2, l32_3, l32_4, l32_5, l32_6, l32_7, l32_8, l32_9, l32_10, l32_11, l32_12, l32_13, l32_14, l32_15, l32_16, l32_17, l32_18, l32_19, l32_20, l32_21, l32_22, l32_23, l32_24, l32_25, l32_26, l32_27, l32_28, l32_29, l32_33, l32_40, l32_41, l32_44, l32_45, l32_59, l32_61, l32_91, l32_93, l32_123, l32_125, a2, hh]
  have hR0 : cf_181 N X (cf_S1 N X (F + 1)) pl t = ko_call 5 (cf_183 N X pl t1) (fun g1 v1 => co_i v1 (fun y => cf_181_12 N X (cf_S1 N X (F + 1)) pl y g1)) := by
    unfold cf_181 cf_181_0 cf_181_7
    simp (disch := omega) only [ev_S, ev_C, ↓reduceIte, Nat.reduceEqDiff, Nat.reduceLeDiff, Nat.reduceAdd, Nat.reduceMul, Nat.reduceSub, reduceCtorEq, l32_0, l32_1, l32_2, l32_3, l32_4, l32_5, l32_6, l32_7, l32_8, l32_9, l32_10, l32_11, l32_12, l32_13, l32_14, l32_15, l32_16, l32_17, l32_18, l32_19, l32_20, l32_21, l32_22, l32_23, l32_24, l32_25, l32_26, l32_27, l32_28, l32_29, l32_33, l32_40, l32_41, l32_44, l32_45, l32_59, l32_61, l32_91, l32_93, l32_123, l32_125, a1]
  rw [hM0, hR0]
  rcases p_cond (w := 1) (pl := pl) (top := Int32.ofNat (ob0 e + rl code)) hN hX hY (Or.inl rfl) a3 (hwn.kp a5) (hb.kp a5) hB.2 with ⟨t3, s3, i3, segE, vs3, cl3, c1, c2, c3, c4, c5, c6, c7⟩ | ⟨t3, s3, c1, c2, c3, c4⟩
  · rw [c1, c2]
    have f3 := f1.tr c7
    have w3 : rWn s3 := hwn.kp f3.2
    have rb3 : rB s3 Bs := hb.kp f3.2
    have hR1 : ∀ y, ko_call 5 (some (t3, .inl (some (.int y)))) (fun g1 v1 => co_i v1 (fun y => cf_181_12 N X (cf_S1 N X (F + 1)) pl y g1)) = ko_call 5 (cf_S1 N X (F + 1) 176 [] t3) (fun g1 v1 => co_v v1 (cf_181_17 N X (cf_S1 N X (F + 1)) pl y g1)) := fun y => rfl
    rw [hR1]
    generalize hE : code ++ segE = codeE at *
    rcases p_blk (x1 := Int32.ofNat 1) (x2 := Int32.ofNat (ob0 e + rl codeE)) (x3 := Int32.ofNat (ob0 e + rl code)) noX_2 hN hS hF c4 w3 rb3 ⟨hB.1, by first | exact hB.2 | omega⟩ with ⟨t4, s0, s4, k4, i4, segB, vs4, cl4, W4, d1, d2, d3, d4, d5, d6, d7, d8, d9⟩ | ⟨t4, s0, s4, k4, d1, d2, d3, d4, d5, d6⟩
    · rw [d1, d2]
      obtain ⟨q1, q2, q3, q4, q5⟩ := d7.close (N := N) (by omega)
      rw [if_neg (by decide), if_pos (by decide)] at q5
      have d6 := d6.kS q2
      have f4 : FRs p e t t4 s (mI s4 37 (Int32.ofNat Bs.length)) := f3.S.tr (d9.tr ⟨gL.rf, fBk.S q2⟩)
      generalize hs5 : mI s4 37 (Int32.ofNat Bs.length) = s5 at *
      generalize hB' : codeE ++ [((13, unk, 0, 0, pl, 0, 0) : Ins)] ++ segB = codeB at *
      have J1 : JP codeE code.length codeE.length := by
        rw [hfs] at c6
        exact JP.no c6
      have d8 : JP codeB (codeE.length + 1) codeB.length := by
        have : (codeE ++ [((13, unk, 0, 0, pl, 0, 0) : Ins)]).length = codeE.length + 1 := by rw [List.length_append, List.length_singleton]
        rw [this] at d8
        exact d8
      have d6 : PE b n p e i4 op (D + 1 + 1 + 2) codeB codeB vs4 cl4 W4 (4 :: cu) (fs.1, codeB.length, fs.2.2) t4 s5 := d6
      show SQ N b n p e i op (D + 1) code cu fs Bs t s (cf_181_17 N X (cf_S1 N X (F + 1)) pl (Int32.ofNat (cx codeE)) t4) (some (s0, none))
      obtain ⟨hi4, (⟨z1, z2, z3⟩ | ⟨z2, z3⟩)⟩ := p_isElse (N := N) (X := X) hX d6.1
      · rw [z3]
        obtain ⟨t7, s7, seg, g1, g2, ⟨g3, g4, g5, g6, g7⟩, g8, g9, g10, g11⟩ := p_ifE (F := F) (N := N) (X := X) (pl := pl) (rk := cf_S1 N X (F + 1)) (fs := fs) hN d6 q1 hE.symm hB'.symm c5 J1 d8 (fun _ => z1.1)
        rw [g1]
        have f7 := f4.tr g11.S
        have hR2 : cf_181_87 N X (cf_S1 N X (F + 1)) (Int32.ofNat (cx codeB)) t7 = ko_call 5 (cf_S1 N X (F + 1) 176 [] t7) (fun g1 v1 => co_v v1 (cf_181_91 N X (cf_S1 N X (F + 1)) (Int32.ofNat (cx codeB)) g1)) := rfl
        rw [hR2]
        have hM2 : ∀ s8, mf_276 N (Int32.ofNat 2) (Int32.ofNat (ob0 e + rl codeB)) (Int32.ofNat 0) s7 = some (s8, none) → mf_278_6 N s4 = some (s8, none) := fun s8 hh => by
          rw [q5]
          have e1 : mf_278_102 N (Int32.ofNat (ob0 e + rl codeE)) s5 = mf_278_110 N (Int32.ofNat (ob0 e + rl codeE)) s5 := by
            unfold mf_278_102 mf_278_107
            simp (disch := omega) only [ev_S, ev_P, ↓reduceIte, Nat.reduceEqDiff, Nat.reduceLeDiff, Nat.reduceAdd, Nat.reduceMul, Nat.reduceSub, reduceCtorEq, l32_0, l32_1, l32_2, l32_3, l32_4, l32_5, l32_6, l32_7, l32_8, l32_9, l32_10, l32_11, l32_12, l32_13, l32_14, l32_15, l32_16, l32_17, l32_18, l32_19, l32_20, l32_21, l32_22, l32_23, l32_24, l32_25, l32_26, l32_27, l32_28, l32_29, l32_33, l32_40, l32_41, l32_44, l32_45, l32_59, l32_61, l32_91, l32_93, l32_123, l32_125, z2]
          rw [e1, g2, hh]
          rfl
        rcases p_blk (x1 := Int32.ofNat 2) (x2 := Int32.ofNat (ob0 e + rl codeB)) (x3 := Int32.ofNat 0) hsl hN hS hF g8 (FRs.wn f7.2 hwn) g9 ⟨hB.1, by first | exact hB.2 | omega⟩ with ⟨t8, u0, s8, k8, i8, seg8, vs8, cl8, W8, y1, y2, y3, y4, y5, y6, y7, y8, y9⟩ | ⟨t8, u0, s8, k8, y1, y2, y3, y4, y5, y6⟩
        · rw [y1]
          obtain ⟨v1, v2, v3, v4, v5⟩ := y7.close (N := N) (by omega)
          rw [if_neg (by decide), if_neg (by decide), if_neg (by decide), if_neg (by decide)] at v5
          have y6 := y6.kS v2
          have hP8 : kP t8 2 1 = some p := y6.2.1.1
          have f8 : FRs p e t t8 s (mI s8 37 (Int32.ofNat Bs.length)) := f7.tr (y9.tr ⟨gL.rf, fBk.S v2⟩)
          generalize hs9 : mI s8 37 (Int32.ofNat Bs.length) = s9 at *
          have hlt8 : codeB.length < (code ++ seg ++ seg8).length := by rw [List.length_append, g3]; omega
          have hcB : code.length ≤ codeB.length := by rw [← hB', ← hE, List.length_append, List.length_append, List.length_append]; omega
          have hpos : posC (code ++ seg ++ seg8) codeB.length = cx codeB := by rw [posC_app (by omega)]; exact g6
          have hposR : posR (code ++ seg ++ seg8) codeB.length = rl codeB := by rw [posR_app (by omega)]; exact g7
          obtain ⟨t9, s10, segF, w1, w2, w3', w4, w5, w6, w7⟩ := p_last (N := N) (X := X) (q := 14) (r := 0) (pl := pl) (x2 := Int32.ofNat (ob0 e + rl codeB)) (code := code) (code2 := code ++ seg ++ seg8) (m := codeB.length) (l := seg ++ seg8) (fs := fs) y6 v1 (Or.inl rfl) (List.append_assoc _ _ _) ⟨hcB, hlt8⟩ (by rw [getD_appl (by omega)]; exact g4) (fun k k1 k2 k3 => by
            by_cases y : k < codeB.length
            · exact (g10 k k1 y).app (by omega)
            · exact (y8 k (by omega) k2).lo (by omega)) (4 :: cu) (by rw [List.take_append_of_le_length (by omega)]; exact g5) (Or.inr (Or.inl ⟨rfl, Or.inr ⟨by simp, rfl⟩⟩)) (by rw [hposR])
          rw [hpos] at w2
          refine Or.inl ⟨t9, s0, s10, k8 + k4, i8, segF, vs8, cl8, W8, ?_, rfl, by omega, by omega, fun f => ?_, w4.dn (by omega), w5, w6, f8.tr w7.S⟩
          · show cf_181_91 N X (cf_S1 N X (F + 1)) (Int32.ofNat (cx codeB)) t8 = _
            unfold cf_181_91 cf_181_103 cf_181_106
            simp (disch := omega) only [ev_S, ev_C, ↓reduceIte, Nat.reduceEqDiff, Nat.reduceLeDiff, Nat.reduceAdd, Nat.reduceMul, Nat.reduceSub, reduceCtorEq, l32_0, l32_1, l32_2, l32_3, l32_4, l32_5, l32_6, l32_7, l32_8, l32_9, l32_10, l32_11, l32_12, l32_13, l32_14, l32_15, l32_16, l32_17, l32_18, l32_19, l32_20, l32_21, l32_22, l32_23, l32_24, l32_25, l32_26, l32_27, l32_28, l32_29, l32_33, l32_40, l32_41, l32_44, l32_45, l32_59, l32_61, l32_91, l32_93, l32_123, l32_125, hP8, hp, w1, w2]
          · rw [← Nat.add_assoc, d5, hM2 u0 y2]
            show TW N (f + k8) u0 = _
            rw [y5, v5, w3']
            rfl
        · refine Or.inr ⟨t8, s0, s8, k8 + k4, by rw [y1]; rfl, rfl, by omega, fun f => ?_, y5, f7.pre y6⟩
          rw [← Nat.add_assoc, d5, hM2 u0 y2]
          exact y4 f
      · rw [z3]
        obtain ⟨t7, s7, seg, g1, g2, g3, g4, g5, g6⟩ := p_ifN (N := N) (X := X) (pl := pl) (rk := cf_S1 N X (F + 1)) (fs := fs) (codeB := codeB ++ [nuI]) (segB := segB ++ [nuI]) (by rw [List.length_append]; exact d6.nul) q1 hE.symm (by rw [← hB', List.append_assoc]) c5 J1 (JP.nul d8)
        refine Or.inl ⟨t7, s0, s7, k4, i4, seg, vs4, cl4, W4, g1, rfl, by omega, by omega, fun f => ?_, g3.dn (by omega), g4, g5, f4.tr g6.S⟩
        rw [d5, q5]
        have e1 : mf_278_102 N (Int32.ofNat (ob0 e + rl codeE)) s5 = mf_278_144 N (Int32.ofNat (ob0 e + rl codeE)) s5 := by
          unfold mf_278_102 mf_278_107
          simp (disch := omega) only [ev_S, ev_P, ↓reduceIte, Nat.reduceEqDiff, Nat.reduceLeDiff, Nat.reduceAdd, Nat.reduceMul, Nat.reduceSub, reduceCtorEq, l32_0, l32_1, l32_2, l32_3, l32_4, l32_5, l32_6, l32_7, l32_8, l32_9, l32_10, l32_11, l32_12, l32_13, l32_14, l32_15, l32_16, l32_17, l32_18, l32_19, l32_20, l32_21, l32_22, l32_23, l32_24, l32_25, l32_26, l32_27, l32_28, l32_29, l32_33, l32_40, l32_41, l32_44, l32_45, l32_59, l32_61, l32_91, l32_93, l32_123, l32_125, z2]
        rw [e1, g2]
        rfl
    · rw [d1, d2]
      exact Or.inr ⟨t4, s0, s4, k4, rfl, rfl, by omega, d4, d5, f3.S.pre d6⟩
  · exact SQ.f1 hi (by rw [c1]; rfl) c2 c3 (f1.S.pre c4)
end IFW
