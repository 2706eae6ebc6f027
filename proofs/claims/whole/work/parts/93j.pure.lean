/-! ===== PURE: statements (9): while and if ===== -/
section WHI
variable {N : Nat} {X : Nat → Option zz_C} {t t' t1 t2 : cS} {s s' s1 s2 : mS} {b : Nat → Nat} {n p e i i' op op' D D' : Nat} {code code1 code2 l : List Ins} {vs vs' : List (List Nat)} {cl : List Cn} {W : List Wt} {cu cu' : List Nat} {fs fs' : Nat × Nat × Nat} {Bs : List (Int32 × Int32 × Int32)} {a m z : Nat} {c c' : Ins}
theorem JP.setx (hm : m < code.length) (hk : c'.1 = (code.getD m dI).1) (hj : ¬ noJ c') (he : ∀ L, eff c' L = eff (code.getD m dI) L) (h : ∀ k, a ≤ k → k < z → ¬ k = m → okJ code a k) (h0 : okJ (code.set m c') a m) : JP (code.set m c') a z := fun k h1 h2 => by
  by_cases y : k = m
  · subst y
    exact h0
  · exact (h k h1 h2 y).set y he (fun q => hj (by unfold noJ; omega))
theorem pre_set (hc : code2 = code ++ l) (hm : code.length ≤ m) : ∃ seg, code2.set m c' = code ++ seg := by
  subst hc
  exact ⟨_, List.set_append_right _ _ hm⟩
theorem okJ_at {q r j : Nat} {pl : Int32} {L : List Nat} (hcd : code.getD m dI = (q, j, r, 0, pl, 0, 0)) (hq : ¬ q = 23) (h1 : a ≤ j ∧ j ≤ code.length) (h2 : lyo (code.take m) = some L) (h3 : lyo (code.take j) = some cu) (hj : jl (q, j, r, 0, pl, 0, 0) L cu) : okJ code a m := by
  unfold okJ
  rw [hcd]
  exact Or.inr ⟨h1.1, h1.2, fun z => absurd z hq, L, cu, h2, h3, hj⟩
theorem take_pre (h : code2 = code ++ l) : code2.take code.length = code := by
  rw [h]
  exact List.take_left
theorem SQ.f1 {R : kO} {M : mO} (hi : i < (TL b n).length) (hR : R = some (t', .inr ())) (hM : M = some (s', none)) (hF : pF t' s') (hx : FXs p e t t' s s') : SQ N b n p e i op D code cu fs Bs t s R M := Or.inr ⟨t', s', s', 1, hR, hM, by omega, fun f => TW_F hF, hF, hx⟩
/-- while -/
theorem p_while {F : Nat} {pl : Int32} (hN : 170000 ≤ N) (hX : oX N X) (hY : oY X) (hS : SSt N X b n p e F) (hF : 3 * (10 - op) ≤ F) (h : PE b n p e i op D code code vs cl W (5 :: cu) fs t s) (hfs : fs.2.1 = code.length) (hwn : rWn s) (hb : rB s Bs) (hB : Bs.length ≤ op ∧ nF cu + 1 ≤ op) (hk : ∀ hi : i < (TL b n).length, (TL b n)[i].1 = 3) : SQ N b n p e i op (D + 1) code cu fs Bs t s (cf_182 N X (cf_S1 N X (F + 1)) pl t) (mf_279_114 N pl (Int32.ofNat 3) s) := by
  obtain ⟨hi, e5, e6, e7, hkk, ho, he, hlt, hll⟩ := h.1.now
  obtain ⟨t1, s1, a1, a2, a3, a4, a5⟩ := h.adv (N := N) (X := X) hN (fun _ => by have := hk hi; omega)
  have f1 : FR p e t t1 s s1 := ⟨a4, a5⟩
  have hp : (p = 12 ∨ p = 21) = True := eq_true a3.2.1.2.1
  have hP1 : kP t1 2 1 = some p := a3.2.1.1
  have hh : mf_272 N s1 = some (s1, some (.int (Int32.ofNat (ob0 e + rl code)))) := by
    have := r_here (N := N) a3.2.2.1
    rw [RA_len] at this
    exact this
  obtain ⟨t2, s2, b1, b2, b3, b4, b5⟩ := a3.bo (N := N) (X := X) (D' := D) (cu' := 5 :: 5 :: cu) (c := (15, 0, 0, 0, pl, 0, 0)) (k := Int32.ofNat 26) (a := Int32.ofNat 0) (v := pl) (x1 := Int32.ofNat 16) (x2 := Int32.ofNat 0) (x3 := Int32.ofNat 0) (x4 := pl) rfl rfl (Or.inr (Or.inl (Nat.zero_le _))) (eff_15 rfl) (by unfold okI; simp) (by omega) (Or.inl (Nat.le_refl 1))
  have hM0 : mf_279_114 N pl (Int32.ofNat 3) s = mf_279_138 N pl (Int32.ofNat 3) (Int32.ofNat (ob0 e + rl code)) s2 := by
    unfold mf_279_114 mf_279_118 mf_279_122 mf_279_128 mf_279_137
    simp (disch := omega) only [ev_S, ev_P, ↓reduceIte, Nat.reduceEqDiff, Nat.reduceLeDiff, Nat.reduceAdd, Nat.reduceMul, Nat.reduceSub, reduceCtorEq, l32_0, l32_1, l32_2, l32_3, l32_4, l32_5, l32_6, l32_7, l32_8, l32_9, l32_10, l32_11, l32_12, l32_13, l32_14, l32_15, l32_16, l32_17, l32_18, l32_19, l32_20, l32_21, l32_22, l32_23, l32_24, l32_25, l32_26, l32_27, l32_28, l32_29, l32_33, l32_40, l32_41, l32_44, l32_45, l32_59, l32_61, l32_91, l32_93, l32_123, l32_125, a2, hh, b2]
  have hR0 : cf_182 N X (cf_S1 N X (F + 1)) pl t = ko_call 5 (cf_183 N X pl t2) (fun g1 v1 => co_i v1 (fun y => cf_182_24 N X (cf_S1 N X (F + 1)) pl (Int32.ofNat (cx code)) y g1)) := by
    unfold cf_182 cf_182_0 cf_182_7 cf_182_18
    simp (disch := omega) only [ev_S, ev_C, ↓reduceIte, Nat.reduceEqDiff, Nat.reduceLeDiff, Nat.reduceAdd, Nat.reduceMul, Nat.reduceSub, reduceCtorEq, l32_0, l32_1, l32_2, l32_3, l32_4, l32_5, l32_6, l32_7, l32_8, l32_9, l32_10, l32_11, l32_12, l32_13, l32_14, l32_15, l32_16, l32_17, l32_18, l32_19, l32_20, l32_21, l32_22, l32_23, l32_24, l32_25, l32_26, l32_27, l32_28, l32_29, l32_33, l32_40, l32_41, l32_44, l32_45, l32_59, l32_61, l32_91, l32_93, l32_123, l32_125, a1, hP1, hp, b1]
  rw [hM0, hR0]
  have f2 := f1.tr b4
  have w2 : rWn s2 := hwn.kp f2.2
  have rb2 : rB s2 Bs := hb.kp f2.2
  rcases p_cond (w := 3) (pl := pl) (top := Int32.ofNat (ob0 e + rl code)) hN hX hY (Or.inr rfl) b3 w2 rb2 hB.2 with ⟨t3, s3, i3, segE, vs3, cl3, c1, c2, c3, c4, c5, c6, c7⟩ | ⟨t3, s3, c1, c2, c3, c4⟩
  · rw [c1, c2]
    have f3 := f2.tr c7
    have w3 : rWn s3 := hwn.kp f3.2
    have rb3 : rB s3 Bs := hb.kp f3.2
    have hR1 : ∀ y, ko_call 5 (some (t3, .inl (some (.int y)))) (fun g1 v1 => co_i v1 (fun y => cf_182_24 N X (cf_S1 N X (F + 1)) pl (Int32.ofNat (cx code)) y g1)) = ko_call 5 (cf_S1 N X (F + 1) 176 [] t3) (fun g1 v1 => co_v v1 (cf_182_29 N X (cf_S1 N X (F + 1)) pl (Int32.ofNat (cx code)) y g1)) := fun y => rfl
    rw [hR1]
    generalize hE : code ++ [((15, 0, 0, 0, pl, 0, 0) : Ins)] ++ segE = codeE at *
    have hpE : codeE = code ++ ([((15, 0, 0, 0, pl, 0, 0) : Ins)] ++ segE) := by rw [← hE, List.append_assoc]
    have hlE : code.length + 1 ≤ codeE.length := by
      rw [hpE, List.length_append, List.length_append, List.length_singleton]
      omega
    rcases p_blk (x1 := Int32.ofNat 3) (x2 := Int32.ofNat (ob0 e + rl codeE)) (x3 := Int32.ofNat (ob0 e + rl code)) noX_2 hN hS hF c4 w3 rb3 ⟨hB.1, by first | exact hB.2 | omega⟩ with ⟨t4, s0, s4, k4, i4, segB, vs4, cl4, W4, d1, d2, d3, d4, d5, d6, d7, d8, d9⟩ | ⟨t4, s0, s4, k4, d1, d2, d3, d4, d5, d6⟩
    · rw [d1, d2]
      obtain ⟨q1, q2, q3, q4, q5⟩ := d7.close (N := N) (by omega)
      rw [if_neg (by decide), if_neg (by decide), if_pos (by decide)] at q5
      have d6 := d6.kS q2
      have q3 : (mI s4 37 (Int32.ofNat Bs.length)).2.2.1 36 Bs.length = Int32.ofNat (ob0 e + rl code) := q3
      have f4 : FRs p e t t4 s (mI s4 37 (Int32.ofNat Bs.length)) := f3.S.tr (d9.tr ⟨gL.rf, fBk.S q2⟩)
      have h37 : (mI s4 37 (Int32.ofNat Bs.length)).1 37 = Int32.ofNat Bs.length := rfl
      generalize hs5 : mI s4 37 (Int32.ofNat Bs.length) = s5 at *
      generalize hB' : codeE ++ [((13, unk, 0, 0, pl, 0, 0) : Ins)] ++ segB = codeB at *
      have hpB : codeB = codeE ++ ([((13, unk, 0, 0, pl, 0, 0) : Ins)] ++ segB) := by rw [← hB', List.append_assoc]
      have hlB : codeE.length + 1 ≤ codeB.length := by
        rw [hpB, List.length_append, List.length_append, List.length_singleton]
        omega
      have hpB0 : codeB = code ++ ([((15, 0, 0, 0, pl, 0, 0) : Ins)] ++ segE ++ ([((13, unk, 0, 0, pl, 0, 0) : Ins)] ++ segB)) := by
        rw [hpB, hpE, List.append_assoc]
      have hP4 : kP t4 2 1 = some p := d6.2.1.1
      obtain ⟨hl1, hl2⟩ := d6.len
      have hrl := d6.rle
      have ho4 : ob0 e ≤ 4000 := by unfold ob0; omega
      have tC : cI codeB (posC codeB codeB.length) (14, code.length, 2, 0, pl, 0, 0) = [(Int32.ofNat 4, Int32.ofNat (cx code), pl)] := by
        show [(_, tgC codeB code.length 0, pl)] = _
        unfold tgC
        rw [if_neg (by show ¬ code.length = 99999; omega), hpB0, posC_e]
        rfl
      have tR : rI e codeB (14, code.length, 2, 0, pl, 0, 0) = [(Int32.ofNat 15, Int32.ofNat (ob0 e + rl code), Int32.ofNat 0, 0, Int32.ofNat 0)] := by
        show [(_, tgR e codeB code.length 0, _)] = _
        unfold tgR
        rw [if_neg (by show ¬ code.length = 99999; omega), hpB0, posR_e]
        rfl
      obtain ⟨t6, s6, g1, g2, g3, g4, g5⟩ := PEg.bo (N := N) (X := X) (js := codeB.length + 1) (D' := D + 2) (cu' := cu) d6 (fun z => absurd z (by simp)) (Or.inr rfl) tC tR (Or.inr (Or.inl (by show code.length ≤ codeB.length; omega))) rfl (by unfold okI; simp) (by omega) (Or.inl (Nat.le_refl 1))
      generalize hC' : codeB ++ [((14, code.length, 2, 0, pl, 0, 0) : Ins)] = codeC at *
      have hlC : codeC.length = codeB.length + 1 := by rw [← hC', List.length_append, List.length_singleton]
      have hpC : codeC = codeE ++ ([((13, unk, 0, 0, pl, 0, 0) : Ins)] ++ segB ++ [((14, code.length, 2, 0, pl, 0, 0) : Ins)]) := by
        rw [← hC', hpB, List.append_assoc]
      have hcd : codeC.getD codeE.length dI = (13, unk, 0, 0, pl, 0, 0) := by
        rw [← hC', getD_appl (by omega), ← hB', getD_appl (by rw [List.length_append, List.length_singleton]; omega)]
        exact getD_last
      obtain ⟨t7, u1, u2, u3⟩ := PE.tgt (N := N) (X := X) (m := codeE.length) g3 (Or.inl rfl) (by omega) hcd (by show codeE.length < codeB.length + 1; omega) (by unfold okI; simp)
      have pC : posC codeC codeE.length = cx codeE := by rw [hpC]; exact posC_e
      have pR : posR codeC codeE.length = rl codeE := by rw [hpC]; exact posR_e
      rw [pC] at u1
      rw [pR] at u2 u3
      have hP6 : kP t6 2 1 = some p := g3.2.1.1
      have hlen : cf_203 N X p t6 = some (t6, .inl (some (.int (Int32.ofNat (cx codeC))))) := by
        have := c_len (N := N) (X := X) g3.2.1
        rw [CA_len] at this
        exact this
      have hh6 : mf_272 N s6 = some (s6, some (.int (Int32.ofNat (ob0 e + rl codeC)))) := by
        have := r_here (N := N) g3.2.2.1
        rw [RA_len] at this
        exact this
      have hrE : rl codeE ≤ rl codeB := by
        rw [hpB, rl_app]
        omega
      obtain ⟨seg, hseg⟩ := pre_set (c' := (13, codeC.length, 0, 0, pl, 0, 0)) (m := codeE.length) (code := code) (code2 := codeC) (by rw [← hC', hpB0, List.append_assoc]) (by omega)
      rw [hseg] at u2
      have hls : (code ++ seg).length = codeB.length + 1 := by rw [← hseg, List.length_set, hlC]
      have hlyC : lyo codeC = some cu := PE.ly g3
      have okG : okJ codeC code.length codeB.length := okJ_at (q := 14) (j := code.length) (r := 2) (pl := pl) (L := 4 :: 5 :: cu) (cu := 5 :: cu) (by rw [← hC']; exact getD_last) (by decide) (by omega) (by rw [← hC', List.take_left]; exact d6.ly) (by rw [take_pre (code2 := codeC) (code := code) (by rw [← hC', hpB0, List.append_assoc])]; exact h.ly) (Or.inr (Or.inl ⟨rfl, Or.inr ⟨by simp, rfl⟩⟩))
      have J1 : JP codeE code.length codeE.length := by
        rw [hfs] at c6
        exact JP.no c6
      have d8 : JP codeB (codeE.length + 1) codeB.length := by
        have : (codeE ++ [((13, unk, 0, 0, pl, 0, 0) : Ins)]).length = codeE.length + 1 := by rw [List.length_append, List.length_singleton]
        rw [this] at d8
        exact d8
      have JF : JP (code ++ seg) code.length (code ++ seg).length := by
        rw [hls, ← hseg]
        refine JP.setx (by omega) (by rw [hcd]) (by unfold noJ; simp) (fun L => by rw [hcd]; rfl) (fun k k1 k2 k3 => ?_) (okJ_tgt (L := 0 :: 5 :: 5 :: cu) (Or.inl rfl) (by omega) hcd (by omega) (by rw [take_pre hpC]; exact c5) hlyC (Or.inl ⟨rfl, Or.inr rfl⟩))
        by_cases y : k < codeE.length
        · rw [hpC]
          exact (J1 k k1 y).app y
        · by_cases y2 : k = codeB.length
          · rw [y2]
            exact okG
          · rw [← hC']
            exact ((d8 k (by omega) (by omega)).lo (by omega)).app (by omega)
      refine Or.inl ⟨t7, s0, _, k4, i4, seg, vs4, cl4, W4, ?_, rfl, by omega, by omega, fun f => ?_, ?_, (q1.kp (fO.Q g5)).kp u3.2, JF, f4.tr (g4.S.tr u3.S)⟩
      · show cf_182_29 N X (cf_S1 N X (F + 1)) pl (Int32.ofNat (cx code)) (Int32.ofNat (cx codeE)) t4 = _
        unfold cf_182_29 cf_182_39 cf_182_52 cf_182_55
        simp (disch := omega) only [ev_S, ev_C, ↓reduceIte, Nat.reduceEqDiff, Nat.reduceLeDiff, Nat.reduceAdd, Nat.reduceMul, Nat.reduceSub, reduceCtorEq, l32_0, l32_1, l32_2, l32_3, l32_4, l32_5, l32_6, l32_7, l32_8, l32_9, l32_10, l32_11, l32_12, l32_13, l32_14, l32_15, l32_16, l32_17, l32_18, l32_19, l32_20, l32_21, l32_22, l32_23, l32_24, l32_25, l32_26, l32_27, l32_28, l32_29, l32_33, l32_40, l32_41, l32_44, l32_45, l32_59, l32_61, l32_91, l32_93, l32_123, l32_125, hP4, hp, g1, hP6, hlen, u1]
      · rw [d5, q5]
        have e1 : mf_278_155 N (Int32.ofNat (ob0 e + rl codeE)) s5 = some (mA s6 24 (upd (s6.2.2.1 24) (ob0 e + rl codeE) (Int32.ofNat (ob0 e + rl codeC))), none) := by
          generalize ob0 e = o at *
          unfold mf_278_155 mf_278_172 mf_278_182
          simp (disch := omega) only [ev_S, ev_P, ↓reduceIte, Nat.reduceEqDiff, Nat.reduceLeDiff, Nat.reduceAdd, Nat.reduceMul, Nat.reduceSub, reduceCtorEq, l32_0, l32_1, l32_2, l32_3, l32_4, l32_5, l32_6, l32_7, l32_8, l32_9, l32_10, l32_11, l32_12, l32_13, l32_14, l32_15, l32_16, l32_17, l32_18, l32_19, l32_20, l32_21, l32_22, l32_23, l32_24, l32_25, l32_26, l32_27, l32_28, l32_29, l32_33, l32_40, l32_41, l32_44, l32_45, l32_59, l32_61, l32_91, l32_93, l32_123, l32_125, h37, q3, g2, hh6, l32_8000]
        rw [e1]
        rfl
      · rw [hls]
        refine (u2.dn (Nat.le_succ _)).fsx ⟨Nat.le_refl _, ?_⟩ u2.pa
        rw [hls]
        exact Nat.le_refl _
    · rw [d1, d2]
      exact Or.inr ⟨t4, s0, s4, k4, rfl, rfl, by omega, d4, d5, f3.S.pre d6⟩
  · exact SQ.f1 hi (by rw [c1]; rfl) c2 c3 (f2.S.pre c4)
end WHI
