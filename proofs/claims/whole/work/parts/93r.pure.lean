/-! ===== PURE: statements (17): every statement is read alike ===== -/
section DIS
variable {N : Nat} {X : Nat → Option zz_C} {t t' t1 t2 : cS} {s s' s1 s2 : mS} {b : Nat → Nat} {n p e i i' op op' D D' : Nat} {code code1 code2 l : List Ins} {vs vs' : List (List Nat)} {cl : List Cn} {W : List Wt} {cu cu' : List Nat} {fs fs' : Nat × Nat × Nat} {Bs : List (Int32 × Int32 × Int32)} {a m z : Nat} {c c' : Ins}
/-- every statement is read alike -/
theorem p_SSt (hN : 170000 ≤ N) (hX : oX N X) (hY : oY X) (hZ : oZ X) : ∀ F, SSt N X b n p e F := by
  intro F
  induction F using Nat.strongRecOn with
  | ind F ih =>
    intro i op D code vs cl W cu fs Bs t s h hwn hb hsl hB hB1 hD hnb hF
    have hop := h.1.2.2.2.1
    obtain ⟨G, rfl⟩ : ∃ G, F = G + 3 := ⟨F - 3, by omega⟩
    have hS : SSt N X b n p e G := ih G (by omega)
    obtain ⟨hi, e5, e6, e7, hkk, ho, he, hlt, hll⟩ := h.1.now
    have hnb := hnb hi
    obtain ⟨D, rfl⟩ : ∃ d, D = d + 1 := ⟨D - 1, by omega⟩
    have h6 : s.1 6 = Int32.ofNat (TL b n)[i].2.2.2.1 := hkk.1
    have h9 : s.1 9 = Int32.ofNat 0 := h.1.2.2.2.2.2.2.2.2.2
    have hwd := h.1.2.2.2.2.2.2.2.1
    have hT : ∀ f, TW N (f + 1) s = mo_bv (mf_279 N s) (fun s1 => TW N f s1) := fun f => by
      obtain ⟨_, w1, _⟩ := TW_s (N := N) (f := f) (B := Bs.length - 1) h.1 (by rw [show Bs.length - 1 + 1 = Bs.length by omega]; exact hb.1) (by have := hb.2.1; omega)
      exact w1 hnb
    refine SQ.st hT ?_
    rw [S1_177]
    have hwh := r_wordHere (N := N) hN hwd hkk
    have hM0 : ∀ y, mf_265 N s = some (s, some (.int y)) → mf_279 N s = mf_279_9 N (Int32.ofNat (TL b n)[i].2.2.2.1) y s := fun y hy => by
      unfold mf_279 mf_279_0
      rw [hy, h6]
      rfl
    by_cases k3 : (TL b n)[i].1 = 3
    · rw [if_pos k3] at hwh
      have h5 : s.1 5 = Int32.ofNat 1 := by
        obtain ⟨y1, y2, y3 | y3 | y3 | y3 | y3⟩ := hkk
        · omega
        · omega
        · omega
        · exact y3.2.1
        · omega
      -- both write what begins a statement
      have h0 := h.fsx (j := code.length) (q := fs.2.2) ⟨h.nj.1, Nat.le_refl _⟩ h.pa
      obtain ⟨t1, s1, b1, b2, b3, b4, b5⟩ := h0.bo (N := N) (X := X) (D' := D) (cu' := 5 :: cu) (c := (16, 0, 0, 0, Int32.ofNat (TL b n)[i].2.2.2.1, 0, 0)) (k := Int32.ofNat 26) (a := Int32.ofNat 0) (v := Int32.ofNat (TL b n)[i].2.2.2.1) (x1 := Int32.ofNat 1) (x2 := Int32.ofNat 0) (x3 := Int32.ofNat 0) (x4 := Int32.ofNat (TL b n)[i].2.2.2.1) rfl rfl (Or.inr (Or.inl (Nat.zero_le _))) (eff_16 rfl hsl) (by unfold okI; simp) (by omega) (Or.inl (Nat.le_refl 1))
      have hP : kP t 2 1 = some p := h.2.1.1
      have hp : (p = 12 ∨ p = 21) = True := eq_true h.2.1.2.1
      have hn1 := b3.nj.2
      have J0 : JP (code ++ [((16, 0, 0, 0, Int32.ofNat (TL b n)[i].2.2.2.1, 0, 0) : Ins)]) code.length (code ++ [((16, 0, 0, 0, Int32.ofNat (TL b n)[i].2.2.2.1, 0, 0) : Ins)]).length := JP.no hn1
      have b3' := b3.fsx (j := (code ++ [((16, 0, 0, 0, Int32.ofNat (TL b n)[i].2.2.2.1, 0, 0) : Ins)]).length) (q := fs.2.2) ⟨b3.nj.1, Nat.le_refl _⟩ b3.pa
      have w1 : rWn s1 := hwn.kp b4.2
      have rb1 : rB s1 Bs := hb.kp b4.2
      have hff : cf_202 N X (Int32.ofNat 1) (Int32.ofNat 2) t = some (t, .inl none) := c_fine
      generalize hpl : (TL b n)[i].2.2.2.1 = pl at *
      have step : ∀ R M, SQ N b n p e i op (D + 1) (code ++ [((16, 0, 0, 0, Int32.ofNat pl, 0, 0) : Ins)]) cu (fs.1, (code ++ [((16, 0, 0, 0, Int32.ofNat pl, 0, 0) : Ins)]).length, fs.2.2) Bs t1 s1 R M → SQ N b n p e i op (D + 1) code cu fs Bs t s R M := fun R M hh => SQ.pre' (seg0 := [((16, 0, 0, 0, Int32.ofNat pl, 0, 0) : Ins)]) b4 (Nat.le_refl _) rfl J0 hh
      have hC1 : ∀ q : Nat, ck (TL b n)[i] = q → (q = 3 ∨ q = 4) → cf_177 N X (cf_S1 N X (G + 2)) t = cf_177_47 N X (cf_S1 N X (G + 2)) (Int32.ofNat pl) (Int32.ofNat q) (Int32.ofNat (cx code)) t1 := fun q hq hq2 => by
        rw [hq] at e5
        rcases hq2 with z | z <;> subst z
        · unfold cf_177 cf_177_0 cf_177_7 cf_177_15 cf_177_27 cf_177_32 cf_177_36
          simp (disch := omega) only [ev_S, ev_C, ↓reduceIte, Nat.reduceEqDiff, Nat.reduceLeDiff, Nat.reduceAdd, Nat.reduceMul, Nat.reduceSub, reduceCtorEq, l32_0, l32_1, l32_2, l32_3, l32_4, l32_5, l32_6, l32_7, l32_8, l32_9, l32_10, l32_11, l32_12, l32_13, l32_14, l32_15, l32_16, l32_17, l32_18, l32_19, l32_20, l32_21, l32_22, l32_23, l32_24, l32_25, l32_26, l32_27, l32_28, l32_29, l32_33, l32_40, l32_41, l32_44, l32_45, l32_59, l32_61, l32_91, l32_93, l32_123, l32_125, c_placeNow, e6, c_kindNow, e5, hff, hP, hp, b1]
        · unfold cf_177 cf_177_0 cf_177_7 cf_177_15 cf_177_22 cf_177_27 cf_177_32 cf_177_36
          simp (disch := omega) only [ev_S, ev_C, ↓reduceIte, Nat.reduceEqDiff, Nat.reduceLeDiff, Nat.reduceAdd, Nat.reduceMul, Nat.reduceSub, reduceCtorEq, l32_0, l32_1, l32_2, l32_3, l32_4, l32_5, l32_6, l32_7, l32_8, l32_9, l32_10, l32_11, l32_12, l32_13, l32_14, l32_15, l32_16, l32_17, l32_18, l32_19, l32_20, l32_21, l32_22, l32_23, l32_24, l32_25, l32_26, l32_27, l32_28, l32_29, l32_33, l32_40, l32_41, l32_44, l32_45, l32_59, l32_61, l32_91, l32_93, l32_123, l32_125, c_placeNow, e6, c_kindNow, e5, hff, hP, hp, b1]
      obtain ⟨hi1, e51, e61, e71, hkk1, ho1, he1, hlt1, hll1⟩ := b3.1.now
      obtain ⟨h00, f00⟩ := b3'.w0
      have hne := r_behind (N := N) hN b3.1.2.2.2.2.2.1 hkk1 he1
      obtain ⟨hj, hj2⟩ := TL_next hi (by omega)
      cases hw : wix (TL b n)[i].2.2.1 with
      | none =>
        rw [hw] at hwh
        have hwh : mf_265 N s = some (s, some (.int (-Int32.ofNat 1))) := hwh
        have kc : ck (TL b n)[i] = 3 := ck3.mpr ⟨k3, hw⟩
        have nx := c_nxt (N := N) (X := X) b3.1 hj
        have r1 : (Int32.ofNat 0 ≤ -Int32.ofNat 1) = False := by decide
        have r2 : (Int32.ofNat 11 ≤ -Int32.ofNat 1) = False := by decide
        have r3 : (-Int32.ofNat 1 = Int32.ofNat 0) = False := by decide
        have r4 : (-Int32.ofNat 1 = Int32.ofNat 2) = False := by decide
        have r5 : (-Int32.ofNat 1 = Int32.ofNat 5) = False := by decide
        have r6 : (-Int32.ofNat 1 = Int32.ofNat 10) = False := by decide
        have hM1 : mf_279 N s = mo_bi (mf_270 N s1) (fun s2 y => mf_279_66 N (Int32.ofNat pl) (-Int32.ofNat 1) y s2) := by
          rw [hM0 _ hwh]
          unfold mf_279_9 mf_279_18 mf_279_22 mf_279_27 mf_279_32 mf_279_43 mf_279_51 mf_279_58 mf_279_62
          simp (disch := omega) only [ev_S, ev_P, ↓reduceIte, Nat.reduceEqDiff, Nat.reduceLeDiff, Nat.reduceAdd, Nat.reduceMul, Nat.reduceSub, reduceCtorEq, l32_0, l32_1, l32_2, l32_3, l32_4, l32_5, l32_6, l32_7, l32_8, l32_9, l32_10, l32_11, l32_12, l32_13, l32_14, l32_15, l32_16, l32_17, l32_18, l32_19, l32_20, l32_21, l32_22, l32_23, l32_24, l32_25, l32_26, l32_27, l32_28, l32_29, l32_33, l32_40, l32_41, l32_44, l32_45, l32_59, l32_61, l32_91, l32_93, l32_123, l32_125, h5, r1, r2, r3, r4, r5, r6, b2]
        rw [hC1 3 kc (Or.inl rfl), hM1, hne, ← hj2]
        by_cases c4 : (TL b n)[i + 1].1 = 40
        · rw [if_pos c4]
          have hnk : ck (TL b n)[i + 1] = 40 := (ck_sg (by decide)).mpr c4
          rw [hnk] at nx
          have hR : cf_177_47 N X (cf_S1 N X (G + 2)) (Int32.ofNat pl) (Int32.ofNat 3) (Int32.ofNat (cx code)) t1 = ko_call 5 (cf_191 N X (cf_S0 N X (148 + 1)) t1) (fun g v => co_v v (ko_call 5 (cf_178 N X g) (fun g v => co_v v (some (g, .inl none))))) := by
            unfold cf_177_47 cf_177_53 cf_177_60 cf_177_65
            simp (disch := omega) only [ev_S, ev_C, ↓reduceIte, Nat.reduceEqDiff, Nat.reduceLeDiff, Nat.reduceAdd, Nat.reduceMul, Nat.reduceSub, reduceCtorEq, l32_0, l32_1, l32_2, l32_3, l32_4, l32_5, l32_6, l32_7, l32_8, l32_9, l32_10, l32_11, l32_12, l32_13, l32_14, l32_15, l32_16, l32_17, l32_18, l32_19, l32_20, l32_21, l32_22, l32_23, l32_24, l32_25, l32_26, l32_27, l32_28, l32_29, l32_33, l32_40, l32_41, l32_44, l32_45, l32_59, l32_61, l32_91, l32_93, l32_123, l32_125, nx]
            rfl
          rw [hR]
          refine step _ _ (SR.q rb1 hi rfl (p_drop hN b3' rb1 (RS.alone hN hi hll f00 ?_)))
          exact p_call hN (p_SX hN hX hY 148) h00 (w1.kp f00.2) (by omega) (Nat.zero_le _) (fun _ => ⟨kc, fun _ => c4⟩)
        · rw [if_neg c4]
          have hnk : ¬ ck (TL b n)[i + 1] = 40 := fun q => c4 ((ck_sg (by decide)).mp q)
          have hlt2 : ck (TL b n)[i + 1] < 512 := by
            have := b3.1.1
            obtain ⟨s9, q1, q2, q3⟩ := r_take (N := N) hN b3.1.2.2.2.2.2.1 hkk1 he1
            rw [← hj2] at q2
            exact ck_lt q2.ok
          have hR : cf_177_47 N X (cf_S1 N X (G + 2)) (Int32.ofNat pl) (Int32.ofNat 3) (Int32.ofNat (cx code)) t1 = ko_call 5 (cf_180 N X t1) (fun g v => co_v v (some (g, .inl none))) := by
            unfold cf_177_47 cf_177_53 cf_177_60 cf_177_74 cf_177_79
            simp (disch := omega) only [ev_S, ev_C, ↓reduceIte, Nat.reduceEqDiff, Nat.reduceLeDiff, Nat.reduceAdd, Nat.reduceMul, Nat.reduceSub, reduceCtorEq, l32_0, l32_1, l32_2, l32_3, l32_4, l32_5, l32_6, l32_7, l32_8, l32_9, l32_10, l32_11, l32_12, l32_13, l32_14, l32_15, l32_16, l32_17, l32_18, l32_19, l32_20, l32_21, l32_22, l32_23, l32_24, l32_25, l32_26, l32_27, l32_28, l32_29, l32_33, l32_40, l32_41, l32_44, l32_45, l32_59, l32_61, l32_91, l32_93, l32_123, l32_125, nx, hnk]
            rfl
          have hM2 : mo_bi (some (s1, some (.int 0))) (fun s2 y => mf_279_66 N (Int32.ofNat pl) (-Int32.ofNat 1) y s2) = mo_bv (mf_280 N s1) (fun s => some (s, none)) := by
            show mf_279_66 N (Int32.ofNat pl) (-Int32.ofNat 1) 0 s1 = _
            unfold mf_279_66 mf_279_93 mf_279_97
            simp (disch := omega) only [ev_S, ev_P, ↓reduceIte, Nat.reduceEqDiff, Nat.reduceLeDiff, Nat.reduceAdd, Nat.reduceMul, Nat.reduceSub, reduceCtorEq, l32_0, l32_1, l32_2, l32_3, l32_4, l32_5, l32_6, l32_7, l32_8, l32_9, l32_10, l32_11, l32_12, l32_13, l32_14, l32_15, l32_16, l32_17, l32_18, l32_19, l32_20, l32_21, l32_22, l32_23, l32_24, l32_25, l32_26, l32_27, l32_28, l32_29, l32_33, l32_40, l32_41, l32_44, l32_45, l32_59, l32_61, l32_91, l32_93, l32_123, l32_125, r1]
            rfl
          rw [hR, hM2]
          refine step _ _ (SR.q rb1 hi rfl ?_)
          rcases p_asg hN hX hY b3' w1 rb1 with ⟨t', s', i', seg, vs', cl', W', a1, a2, a3, a4, a5⟩ | ⟨t', s', a1, a2, a3, a4⟩
          · exact Or.inl ⟨t', s', i', seg, vs', cl', W', by rw [a1]; rfl, by rw [a2]; rfl, a3, a4, a5⟩
          · exact Or.inr ⟨t', s', by rw [a1]; rfl, by rw [a2]; rfl, a3, a4⟩
      | some w =>
        rw [hw] at hwh
        have hwh : mf_265 N s = some (s, some (.int (Int32.ofNat w))) := hwh
        have hw41 := (wix_some hw).1
        have kc : ck (TL b n)[i] = 4 := ck4.mpr (Or.inl ⟨k3, w, hw⟩)
        have hdi := c_disp (rk := cf_S1 N X (G + 2)) (x1 := Int32.ofNat pl) hX hY hZ b3.1 (fun _ => ⟨k3, hw⟩)
        have hR0 : cf_177_47 N X (cf_S1 N X (G + 2)) (Int32.ofNat pl) (Int32.ofNat 4) (Int32.ofNat (cx code)) t1 = cf_177_84 N X (cf_S1 N X (G + 2)) (Int32.ofNat pl) t1 := by
          unfold cf_177_47 cf_177_74
          simp (disch := omega) only [ev_S, ev_C, ↓reduceIte, Nat.reduceEqDiff, Nat.reduceLeDiff, Nat.reduceAdd, Nat.reduceMul, Nat.reduceSub, reduceCtorEq, l32_0, l32_1, l32_2, l32_3, l32_4, l32_5, l32_6, l32_7, l32_8, l32_9, l32_10, l32_11, l32_12, l32_13, l32_14, l32_15, l32_16, l32_17, l32_18, l32_19, l32_20, l32_21, l32_22, l32_23, l32_24, l32_25, l32_26, l32_27, l32_28, l32_29, l32_33, l32_40, l32_41, l32_44, l32_45, l32_59, l32_61, l32_91, l32_93, l32_123, l32_125]
        rw [hC1 4 kc (Or.inr rfl), hR0, hdi]
        by_cases c0 : w = 0 ∨ w = 2 ∨ w = 5 ∨ w = 10
        · -- no statement begins so
          have hsw : swn w = 0 := by
            rcases c0 with z | z | z | z <;> subst z <;> rfl
          rw [hsw, if_neg (by decide), if_neg (by decide), if_neg (by decide), if_neg (by decide), if_neg (by decide), if_neg (by decide), if_neg (by decide)]
          obtain ⟨t', s', c1, c2, c3, c4, c5⟩ := p_wrong (N := N) (X := X) (b3.1.kR (s' := s) (fun q z => (b5.1 q (by omega)).symm) (b5.2.1 7).symm (b5.2.2.1 2 (by omega)).symm (b5.2.2.2.1 0).symm)
          have cn := c_nob (rk := cf_S0 N X 149) (w := w) hY (by omega) c1
          refine SQ.f1 hi ?_ ?_ c3 ⟨gX.pre b4.1 (c4.mono eP_Q (fun _ z => z.elim)), (fPs.Q c5).S, b3.szF c4⟩
          · show ko_call 5 (cf_192 N X (cf_S0 N X 149) (zz_out + (w + 1)) t1) _ = _
            rw [cn]
            rfl
          · rw [hM0 _ hwh]
            rcases c0 with z | z | z | z <;> subst z
            · unfold mf_279_9 mf_279_18 mf_279_38 mf_279_42
              simp (disch := omega) only [ev_S, ev_P, ↓reduceIte, Nat.reduceEqDiff, Nat.reduceLeDiff, Nat.reduceAdd, Nat.reduceMul, Nat.reduceSub, reduceCtorEq, l32_0, l32_1, l32_2, l32_3, l32_4, l32_5, l32_6, l32_7, l32_8, l32_9, l32_10, l32_11, l32_12, l32_13, l32_14, l32_15, l32_16, l32_17, l32_18, l32_19, l32_20, l32_21, l32_22, l32_23, l32_24, l32_25, l32_26, l32_27, l32_28, l32_29, l32_33, l32_40, l32_41, l32_44, l32_45, l32_59, l32_61, l32_91, l32_93, l32_123, l32_125, h5, c2]
            · unfold mf_279_9 mf_279_18 mf_279_22 mf_279_38 mf_279_42
              simp (disch := omega) only [ev_S, ev_P, ↓reduceIte, Nat.reduceEqDiff, Nat.reduceLeDiff, Nat.reduceAdd, Nat.reduceMul, Nat.reduceSub, reduceCtorEq, l32_0, l32_1, l32_2, l32_3, l32_4, l32_5, l32_6, l32_7, l32_8, l32_9, l32_10, l32_11, l32_12, l32_13, l32_14, l32_15, l32_16, l32_17, l32_18, l32_19, l32_20, l32_21, l32_22, l32_23, l32_24, l32_25, l32_26, l32_27, l32_28, l32_29, l32_33, l32_40, l32_41, l32_44, l32_45, l32_59, l32_61, l32_91, l32_93, l32_123, l32_125, h5, c2]
            · unfold mf_279_9 mf_279_18 mf_279_22 mf_279_27 mf_279_38 mf_279_42
              simp (disch := omega) only [ev_S, ev_P, ↓reduceIte, Nat.reduceEqDiff, Nat.reduceLeDiff, Nat.reduceAdd, Nat.reduceMul, Nat.reduceSub, reduceCtorEq, l32_0, l32_1, l32_2, l32_3, l32_4, l32_5, l32_6, l32_7, l32_8, l32_9, l32_10, l32_11, l32_12, l32_13, l32_14, l32_15, l32_16, l32_17, l32_18, l32_19, l32_20, l32_21, l32_22, l32_23, l32_24, l32_25, l32_26, l32_27, l32_28, l32_29, l32_33, l32_40, l32_41, l32_44, l32_45, l32_59, l32_61, l32_91, l32_93, l32_123, l32_125, h5, c2]
            · unfold mf_279_9 mf_279_18 mf_279_22 mf_279_27 mf_279_32 mf_279_38 mf_279_42
              simp (disch := omega) only [ev_S, ev_P, ↓reduceIte, Nat.reduceEqDiff, Nat.reduceLeDiff, Nat.reduceAdd, Nat.reduceMul, Nat.reduceSub, reduceCtorEq, l32_0, l32_1, l32_2, l32_3, l32_4, l32_5, l32_6, l32_7, l32_8, l32_9, l32_10, l32_11, l32_12, l32_13, l32_14, l32_15, l32_16, l32_17, l32_18, l32_19, l32_20, l32_21, l32_22, l32_23, l32_24, l32_25, l32_26, l32_27, l32_28, l32_29, l32_33, l32_40, l32_41, l32_44, l32_45, l32_59, l32_61, l32_91, l32_93, l32_123, l32_125, h5, c2]
        · have n0 : ¬ w = 0 := by omega
          have n2 : ¬ w = 2 := by omega
          have n5 : ¬ w = 5 := by omega
          have n10 : ¬ w = 10 := by omega
          have hM1 : mf_279 N s = mf_279_51 N (Int32.ofNat pl) (Int32.ofNat w) (Int32.ofNat (ob0 e + rl code)) s1 := by
            rw [hM0 _ hwh]
            unfold mf_279_9 mf_279_18 mf_279_22 mf_279_27 mf_279_32 mf_279_43
            simp (disch := omega) only [ev_S, ev_P, ↓reduceIte, Nat.reduceEqDiff, Nat.reduceLeDiff, Nat.reduceAdd, Nat.reduceMul, Nat.reduceSub, reduceCtorEq, l32_0, l32_1, l32_2, l32_3, l32_4, l32_5, l32_6, l32_7, l32_8, l32_9, l32_10, l32_11, l32_12, l32_13, l32_14, l32_15, l32_16, l32_17, l32_18, l32_19, l32_20, l32_21, l32_22, l32_23, l32_24, l32_25, l32_26, l32_27, l32_28, l32_29, l32_33, l32_40, l32_41, l32_44, l32_45, l32_59, l32_61, l32_91, l32_93, l32_123, l32_125, h5, n0, n2, n5, n10, b2]
          rw [hM1]
          by_cases c11 : 11 ≤ w
          · have hsw : swn w = 0 := by
              unfold swn
              repeat' split
              all_goals omega
            rw [hsw, if_neg (by decide), if_neg (by decide), if_neg (by decide), if_neg (by decide), if_neg (by decide), if_neg (by decide), if_neg (by decide)]
            have hM2 : mf_279_51 N (Int32.ofNat pl) (Int32.ofNat w) (Int32.ofNat (ob0 e + rl code)) s1 = mf_279_69 N (Int32.ofNat pl) s1 := by
              unfold mf_279_51
              simp (disch := omega) only [ev_S, ev_P, ↓reduceIte, Nat.reduceEqDiff, Nat.reduceLeDiff, Nat.reduceAdd, Nat.reduceMul, Nat.reduceSub, reduceCtorEq, l32_0, l32_1, l32_2, l32_3, l32_4, l32_5, l32_6, l32_7, l32_8, l32_9, l32_10, l32_11, l32_12, l32_13, l32_14, l32_15, l32_16, l32_17, l32_18, l32_19, l32_20, l32_21, l32_22, l32_23, l32_24, l32_25, l32_26, l32_27, l32_28, l32_29, l32_33, l32_40, l32_41, l32_44, l32_45, l32_59, l32_61, l32_91, l32_93, l32_123, l32_125]
            have hR : cf_177_201 N X (cf_S1 N X (G + 2)) (zz_out + (w + 1)) t1 = ko_call 5 (cf_192 N X (cf_S0 N X (148 + 1)) (zz_out + (w + 1)) t1) (fun g v => co_v v (ko_call 5 (cf_178 N X g) (fun g v => co_v v (some (g, .inl none))))) := rfl
            rw [hM2, hR]
            refine step _ _ (SR.q rb1 hi rfl (p_drop hN b3' rb1 (RS.alone hN hi hll f00 ?_)))
            by_cases c39 : w < 39
            · exact p_blt hN hX hY (p_SX hN hX hY 148) h00 (w1.kp f00.2) (by omega) (Nat.zero_le _) (fun _ => ⟨k3, hw⟩) ⟨c11, c39⟩
            · obtain ⟨r, hr, hwr⟩ : ∃ r, (r = 1 ∨ r = 2) ∧ w = 38 + r := ⟨w - 38, by omega, by omega⟩
              subst hwr
              exact p_over hN hX hY (p_SX hN hX hY 148) h00 (w1.kp f00.2) (by omega) (Nat.zero_le _) hr (fun _ => ⟨k3, hw⟩)
          · have hM2 : mf_279_51 N (Int32.ofNat pl) (Int32.ofNat w) (Int32.ofNat (ob0 e + rl code)) s1 = mf_279_104 N (Int32.ofNat pl) (Int32.ofNat w) s1 := by
              unfold mf_279_51 mf_279_58 mf_279_93
              simp (disch := omega) only [ev_S, ev_P, ↓reduceIte, Nat.reduceEqDiff, Nat.reduceLeDiff, Nat.reduceAdd, Nat.reduceMul, Nat.reduceSub, reduceCtorEq, l32_0, l32_1, l32_2, l32_3, l32_4, l32_5, l32_6, l32_7, l32_8, l32_9, l32_10, l32_11, l32_12, l32_13, l32_14, l32_15, l32_16, l32_17, l32_18, l32_19, l32_20, l32_21, l32_22, l32_23, l32_24, l32_25, l32_26, l32_27, l32_28, l32_29, l32_33, l32_40, l32_41, l32_44, l32_45, l32_59, l32_61, l32_91, l32_93, l32_123, l32_125, c11]
            rw [hM2]
            have up : ∀ R M, SQ N b n p e i op (D + 1) (code ++ [((16, 0, 0, 0, Int32.ofNat pl, 0, 0) : Ins)]) cu (fs.1, (code ++ [((16, 0, 0, 0, Int32.ofNat pl, 0, 0) : Ins)]).length, fs.2.2) Bs t1 s1 R M → SQ N b n p e i op (D + 1) (code ++ [((16, 0, 0, 0, Int32.ofNat pl, 0, 0) : Ins)]) cu (fs.1, (code ++ [((16, 0, 0, 0, Int32.ofNat pl, 0, 0) : Ins)]).length, fs.2.2) Bs t1 s1 (ko_call 5 R (fun g v => co_v v (some (g, .inl none)))) M := fun R M hh => by
              rcases hh with ⟨t', s0, s', k, i', seg, vs', cl', W', a1, a2⟩ | ⟨t', s0, s', k, a1, a2⟩
              · exact Or.inl ⟨t', s0, s', k, i', seg, vs', cl', W', by rw [a1]; rfl, a2⟩
              · exact Or.inr ⟨t', s0, s', k, by rw [a1]; rfl, a2⟩
            have hv : w = 1 ∨ w = 3 ∨ w = 4 ∨ w = 6 ∨ w = 7 ∨ w = 8 ∨ w = 9 := by omega
            rcases hv with z | z | z | z | z | z | z
            · subst z
              exact step _ _ (up _ _ (p_if hsl hN hX hY hS (by omega) b3' rfl w1 rb1 hB (fun _ => k3)))
            · subst z
              exact step _ _ (up _ _ (p_while hN hX hY hS (by omega) b3' rfl w1 rb1 hB (fun _ => k3)))
            · subst z
              exact step _ _ (up _ _ (p_for hN hX hY hS (by omega) b3' rfl w1 rb1 hB (fun _ => k3)))
            · subst z
              exact step _ _ (up _ _ (SR.q rb1 hi rfl (p_plain (w := 6) (pl := pl) hN hX hY (by omega) b3' w1 rb1 (fun _ => k3))))
            · subst z
              exact step _ _ (up _ _ (SR.q rb1 hi rfl (p_plain (w := 7) (pl := pl) hN hX hY (by omega) b3' w1 rb1 (fun _ => k3))))
            · subst z
              exact step _ _ (up _ _ (SR.q rb1 hi rfl (p_plain (w := 8) (pl := pl) hN hX hY (by omega) b3' w1 rb1 (fun _ => k3))))
            · subst z
              exact step _ _ (up _ _ (p_try hsl hN hX hS (by omega) b3' w1 rb1 hB (fun _ => k3)))
    · -- neither a name nor a word
      rw [if_neg k3] at hwh
      obtain ⟨t', s', c1, c2, c3, c4, c5⟩ := p_wrong (N := N) (X := X) h.1
      have c1 : cf_202 N X (Int32.ofNat 0) (Int32.ofNat 2) t = some (t', .inr ()) := c1
      have n3 : ¬ ck (TL b n)[i] = 3 := fun q => k3 (ck3.mp q).1
      have n4 : ¬ ck (TL b n)[i] = 4 := fun q => by
        rcases ck4.mp q with ⟨y1, -⟩ | y1
        · exact k3 y1
        · rcases ho with q | q | q | q | q <;> omega
      have h5 : s.1 5 = Int32.ofNat 0 ∨ s.1 5 = Int32.ofNat 4 ∨ s.1 5 = Int32.ofNat 2 ∨ s.1 5 = Int32.ofNat 3 := by
        obtain ⟨y1, y2, y3 | y3 | y3 | y3 | y3⟩ := hkk
        · exact Or.inl y3.2
        · exact Or.inr (Or.inl y3.2)
        · exact Or.inr (Or.inr (Or.inl y3.2.1))
        · exact absurd y3.1 k3
        · exact Or.inr (Or.inr (Or.inr y3.2.2.1))
      refine SQ.f1 hi ?_ ?_ c3 ⟨c4.mono eP_Q (fun _ z => z.elim), (fPs.Q c5).S, h.szF c4⟩
      · unfold cf_177 cf_177_0 cf_177_7 cf_177_15 cf_177_22 cf_177_31 cf_177_32
        simp (disch := omega) only [ev_S, ev_C, ↓reduceIte, Nat.reduceEqDiff, Nat.reduceLeDiff, Nat.reduceAdd, Nat.reduceMul, Nat.reduceSub, reduceCtorEq, l32_0, l32_1, l32_2, l32_3, l32_4, l32_5, l32_6, l32_7, l32_8, l32_9, l32_10, l32_11, l32_12, l32_13, l32_14, l32_15, l32_16, l32_17, l32_18, l32_19, l32_20, l32_21, l32_22, l32_23, l32_24, l32_25, l32_26, l32_27, l32_28, l32_29, l32_33, l32_40, l32_41, l32_44, l32_45, l32_59, l32_61, l32_91, l32_93, l32_123, l32_125, c_placeNow, e6, c_kindNow, e5, n3, n4, c1]
        rfl
      · rw [hM0 _ hwh]
        rcases h5 with z | z | z | z
        · unfold mf_279_9 mf_279_38 mf_279_42
          simp (disch := omega) only [ev_S, ev_P, ↓reduceIte, Nat.reduceEqDiff, Nat.reduceLeDiff, Nat.reduceAdd, Nat.reduceMul, Nat.reduceSub, reduceCtorEq, l32_0, l32_1, l32_2, l32_3, l32_4, l32_5, l32_6, l32_7, l32_8, l32_9, l32_10, l32_11, l32_12, l32_13, l32_14, l32_15, l32_16, l32_17, l32_18, l32_19, l32_20, l32_21, l32_22, l32_23, l32_24, l32_25, l32_26, l32_27, l32_28, l32_29, l32_33, l32_40, l32_41, l32_44, l32_45, l32_59, l32_61, l32_91, l32_93, l32_123, l32_125, z, c2]
        · unfold mf_279_9 mf_279_38 mf_279_42
          simp (disch := omega) only [ev_S, ev_P, ↓reduceIte, Nat.reduceEqDiff, Nat.reduceLeDiff, Nat.reduceAdd, Nat.reduceMul, Nat.reduceSub, reduceCtorEq, l32_0, l32_1, l32_2, l32_3, l32_4, l32_5, l32_6, l32_7, l32_8, l32_9, l32_10, l32_11, l32_12, l32_13, l32_14, l32_15, l32_16, l32_17, l32_18, l32_19, l32_20, l32_21, l32_22, l32_23, l32_24, l32_25, l32_26, l32_27, l32_28, l32_29, l32_33, l32_40, l32_41, l32_44, l32_45, l32_59, l32_61, l32_91, l32_93, l32_123, l32_125, z, c2]
        · unfold mf_279_9 mf_279_38 mf_279_42
          simp (disch := omega) only [ev_S, ev_P, ↓reduceIte, Nat.reduceEqDiff, Nat.reduceLeDiff, Nat.reduceAdd, Nat.reduceMul, Nat.reduceSub, reduceCtorEq, l32_0, l32_1, l32_2, l32_3, l32_4, l32_5, l32_6, l32_7, l32_8, l32_9, l32_10, l32_11, l32_12, l32_13, l32_14, l32_15, l32_16, l32_17, l32_18, l32_19, l32_20, l32_21, l32_22, l32_23, l32_24, l32_25, l32_26, l32_27, l32_28, l32_29, l32_33, l32_40, l32_41, l32_44, l32_45, l32_59, l32_61, l32_91, l32_93, l32_123, l32_125, z, c2]
        · unfold mf_279_9 mf_279_38 mf_279_42
          simp (disch := omega) only [ev_S, ev_P, ↓reduceIte, Nat.reduceEqDiff, Nat.reduceLeDiff, Nat.reduceAdd, Nat.reduceMul, Nat.reduceSub, reduceCtorEq, l32_0, l32_1, l32_2, l32_3, l32_4, l32_5, l32_6, l32_7, l32_8, l32_9, l32_10, l32_11, l32_12, l32_13, l32_14, l32_15, l32_16, l32_17, l32_18, l32_19, l32_20, l32_21, l32_22, l32_23, l32_24, l32_25, l32_26, l32_27, l32_28, l32_29, l32_33, l32_40, l32_41, l32_44, l32_45, l32_59, l32_61, l32_91, l32_93, l32_123, l32_125, z, c2]
end DIS
