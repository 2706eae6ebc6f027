/-! ===== PURE: functions (4): all parameters ===== -/
section PRL
variable {N : Nat} {X : Nat → Option zz_C} {t t' t1 t2 : cS} {s s' s1 s2 : mS} {b : Nat → Nat} {n p e i op c : Nat} {vs : List (List Nat)} {ls : List Nat}
theorem fV.tr (h : fV s s1) (g : fV s1 s2) : fV s s2 := ⟨fun q r => (g.1 q r).trans (h.1 q r), fun q r => (g.2.1 q r).trans (h.2.1 q r), fun q r => (g.2.2.1 q r).trans (h.2.2.1 q r), fun q r => (g.2.2.2 q r).trans (h.2.2.2 q r)⟩
theorem fPs.V (f : fPs s s') : fV s s' := ⟨fun q r => f.1 q (by omega), f.2.1, f.2.2.1, fun q r => f.2.2.2 q (fun z => z)⟩
theorem eP_V : ∀ k f, eP k f → eV k f := fun k f z => by
  rcases z with z | ⟨z1, z2⟩
  · exact Or.inl z
  · exact Or.inr ⟨z1, by omega⟩
/-- further parameters -/
theorem p_parL (hN : 170000 ≤ N) : ∀ (d i : Nat) (vs : List (List Nat)) (t : cS) (s : mS) (m Q q : Nat), vs.length + d = 4 → pR b n i op t s → VR vs t s → m ≤ i → d + 1 < Q → (∃ t' s' i' vs', cf_173_L7 N X Q 0 (Int32.ofNat m) t = cf_173_80 N X t' ∧ mf_277_159 N (mf_277_L8 N (q + 10 * (d + 1))) s = mf_277_177 N s' ∧ i ≤ i' ∧ pR b n i' op t' s' ∧ VR vs' t' s' ∧ vs'.length ≤ 4 ∧ gL eV aV t t' ∧ fV s s') ∨ (∃ t' s', cf_173_L7 N X Q 0 (Int32.ofNat m) t = some (t', .inr ()) ∧ mf_277_159 N (mf_277_L8 N (q + 10 * (d + 1))) s = some (s', none) ∧ pF t' s' ∧ gX eV aV t t' ∧ (kB t' 7).1 = 14 ∧ fV s s') := by
  intro d
  induction d with
  | zero =>
    intro i vs t s m Q q hd h hV hm hQ
    obtain ⟨Q, rfl⟩ : ∃ q, Q = q + 1 := ⟨Q - 1, by omega⟩
    obtain ⟨hi, e5, e6, e7, hkk, ho, he, hlt, hll⟩ := h.now
    have hcnt := h.cnt
    have hm1 : ¬ (TL b n).length ≤ m := by omega
    have g1 := r_isSign (N := N) (c := 44) hkk (by decide) (by decide)
    have hci : ck (TL b n)[i] = 44 ↔ (TL b n)[i].1 = 44 := ck_sg (by decide)
    have eL : cf_173_L7 N X (Q + 1) 0 (Int32.ofNat m) t = cf_173_40 N X (cf_173_L7 N X Q) (Int32.ofNat m) t := rfl
    rw [eL]
    by_cases z : (TL b n)[i].1 = 44
    · rw [if_pos z] at g1
      rw [hci.mpr z] at e5
      obtain ⟨t1, s1, a1, a2, a3, a4, a5⟩ := p_adv (N := N) (X := X) hN h (fun _ => by omega)
      have hV1 : VR vs t1 s1 := hV.keep (a4.1 2 4 (by omega)) (a4.2.2.1 7 (fun z => z) (by decide)).2.1 (a5.1 22 (by omega)) (a5.2.2.2 21 (fun z => z))
      have h91 : s1.1 9 = Int32.ofNat 0 := a3.2.2.2.2.2.2.2.2.2
      rcases p_par1 (N := N) (X := X) (q := q + 10 * (0 + 1) - 1 - (vs.length + 1)) hN a3 hV1 (by omega) with ⟨t2, s2, ls, b1, b2, b3, b4, b5, b6, b7⟩ | ⟨t2, s2, b1, b2, b3, b4, b5⟩
      · omega
      · rw [show q + 10 * (0 + 1) - 1 - (vs.length + 1) + (vs.length + 1) = q + 9 by omega] at b2
        refine Or.inr ⟨t2, s2, ?_, ?_, b3, gX.pre (a4.mono eP_V (fun _ z => z.elim)) (b4.mono eP_V (fun _ z => z.elim)), by rw [(b4.2.2.1 7 (fun z => z) (by decide)).2.1]; exact hV1.2.2.1, (fPs.V a5).tr b5⟩
        · unfold cf_173_40 cf_173_48 cf_173_51 cf_173_58 cf_173_63 cf_173_70
          simp (disch := omega) only [ev_S, ev_C, ↓reduceIte, Nat.reduceEqDiff, Nat.reduceLeDiff, Nat.reduceAdd, Nat.reduceMul, Nat.reduceSub, reduceCtorEq, l32_0, l32_1, l32_2, l32_3, l32_4, l32_5, l32_6, l32_7, l32_8, l32_9, l32_10, l32_11, l32_12, l32_13, l32_14, l32_15, l32_16, l32_17, l32_18, l32_19, l32_20, l32_21, l32_22, l32_23, l32_24, l32_25, l32_26, l32_27, l32_28, l32_29, l32_33, l32_40, l32_41, l32_44, l32_45, l32_59, l32_61, l32_91, l32_93, l32_123, l32_125, c_count, hcnt, hm1, c_kindNow, e5, a1, b1]
          rfl
        · unfold mf_277_159 mf_277_165 mf_277_170 mf_277_174
          simp (disch := omega) only [ev_S, ev_P, ↓reduceIte, Nat.reduceEqDiff, Nat.reduceLeDiff, Nat.reduceAdd, Nat.reduceMul, Nat.reduceSub, reduceCtorEq, l32_0, l32_1, l32_2, l32_3, l32_4, l32_5, l32_6, l32_7, l32_8, l32_9, l32_10, l32_11, l32_12, l32_13, l32_14, l32_15, l32_16, l32_17, l32_18, l32_19, l32_20, l32_21, l32_22, l32_23, l32_24, l32_25, l32_26, l32_27, l32_28, l32_29, l32_33, l32_40, l32_41, l32_44, l32_45, l32_59, l32_61, l32_91, l32_93, l32_123, l32_125, g1, a2]
          show mf_277_29 N (mf_277_L8 N (q + 9)) (Int32.ofNat 1) s1 = _
          unfold mf_277_29 mf_277_33
          simp (disch := omega) only [ev_S, ev_P, ↓reduceIte, Nat.reduceEqDiff, Nat.reduceLeDiff, Nat.reduceAdd, Nat.reduceMul, Nat.reduceSub, reduceCtorEq, l32_0, l32_1, l32_2, l32_3, l32_4, l32_5, l32_6, l32_7, l32_8, l32_9, l32_10, l32_11, l32_12, l32_13, l32_14, l32_15, l32_16, l32_17, l32_18, l32_19, l32_20, l32_21, l32_22, l32_23, l32_24, l32_25, l32_26, l32_27, l32_28, l32_29, l32_33, l32_40, l32_41, l32_44, l32_45, l32_59, l32_61, l32_91, l32_93, l32_123, l32_125, h91, b2]
    · rw [if_neg z] at g1
      have z2 : ¬ ck (TL b n)[i] = 44 := fun q => z (hci.mp q)
      refine Or.inl ⟨t, s, i, vs, ?_, ?_, Nat.le_refl _, h, hV, by omega, gL.rf, ⟨fun _ _ => rfl, fun _ _ => rfl, fun _ _ => rfl, fun _ _ => rfl⟩⟩
      · unfold cf_173_40 cf_173_48 cf_173_51 cf_173_58
        simp (disch := omega) only [ev_S, ev_C, ↓reduceIte, Nat.reduceEqDiff, Nat.reduceLeDiff, Nat.reduceAdd, Nat.reduceMul, Nat.reduceSub, reduceCtorEq, l32_0, l32_1, l32_2, l32_3, l32_4, l32_5, l32_6, l32_7, l32_8, l32_9, l32_10, l32_11, l32_12, l32_13, l32_14, l32_15, l32_16, l32_17, l32_18, l32_19, l32_20, l32_21, l32_22, l32_23, l32_24, l32_25, l32_26, l32_27, l32_28, l32_29, l32_33, l32_40, l32_41, l32_44, l32_45, l32_59, l32_61, l32_91, l32_93, l32_123, l32_125, c_count, hcnt, hm1, c_kindNow, e5, z2]
      · unfold mf_277_159 mf_277_165 mf_277_174
        simp (disch := omega) only [ev_S, ev_P, ↓reduceIte, Nat.reduceEqDiff, Nat.reduceLeDiff, Nat.reduceAdd, Nat.reduceMul, Nat.reduceSub, reduceCtorEq, l32_0, l32_1, l32_2, l32_3, l32_4, l32_5, l32_6, l32_7, l32_8, l32_9, l32_10, l32_11, l32_12, l32_13, l32_14, l32_15, l32_16, l32_17, l32_18, l32_19, l32_20, l32_21, l32_22, l32_23, l32_24, l32_25, l32_26, l32_27, l32_28, l32_29, l32_33, l32_40, l32_41, l32_44, l32_45, l32_59, l32_61, l32_91, l32_93, l32_123, l32_125, g1]
        show mf_277_29 N (mf_277_L8 N (q + 9)) (Int32.ofNat 0) s = _
        unfold mf_277_29
        simp (disch := omega) only [ev_S, ev_P, ↓reduceIte, Nat.reduceEqDiff, Nat.reduceLeDiff, Nat.reduceAdd, Nat.reduceMul, Nat.reduceSub, reduceCtorEq, l32_0, l32_1, l32_2, l32_3, l32_4, l32_5, l32_6, l32_7, l32_8, l32_9, l32_10, l32_11, l32_12, l32_13, l32_14, l32_15, l32_16, l32_17, l32_18, l32_19, l32_20, l32_21, l32_22, l32_23, l32_24, l32_25, l32_26, l32_27, l32_28, l32_29, l32_33, l32_40, l32_41, l32_44, l32_45, l32_59, l32_61, l32_91, l32_93, l32_123, l32_125]
  | succ d ih =>
    intro i vs t s m Q q hd h hV hm hQ
    obtain ⟨Q, rfl⟩ : ∃ q, Q = q + 1 := ⟨Q - 1, by omega⟩
    obtain ⟨hi, e5, e6, e7, hkk, ho, he, hlt, hll⟩ := h.now
    have hcnt := h.cnt
    have hm1 : ¬ (TL b n).length ≤ m := by omega
    have g1 := r_isSign (N := N) (c := 44) hkk (by decide) (by decide)
    have hci : ck (TL b n)[i] = 44 ↔ (TL b n)[i].1 = 44 := ck_sg (by decide)
    have eL : cf_173_L7 N X (Q + 1) 0 (Int32.ofNat m) t = cf_173_40 N X (cf_173_L7 N X Q) (Int32.ofNat m) t := rfl
    have eF : q + 10 * (d + 1 + 1) = (q + 10 * (d + 1 + 1) - 1) + 1 := by omega
    rw [eL, eF]
    generalize hF : q + 10 * (d + 1 + 1) - 1 = F at *
    by_cases z : (TL b n)[i].1 = 44
    · rw [if_pos z] at g1
      rw [hci.mpr z] at e5
      obtain ⟨t1, s1, a1, a2, a3, a4, a5⟩ := p_adv (N := N) (X := X) hN h (fun _ => by omega)
      have hV1 : VR vs t1 s1 := hV.keep (a4.1 2 4 (by omega)) (a4.2.2.1 7 (fun z => z) (by decide)).2.1 (a5.1 22 (by omega)) (a5.2.2.2 21 (fun z => z))
      have h91 : s1.1 9 = Int32.ofNat 0 := a3.2.2.2.2.2.2.2.2.2
      have hM : mf_277_159 N (mf_277_L8 N (F + 1)) s = mf_277_40 N (mf_277_L8 N F) s1 := by
        unfold mf_277_159 mf_277_165 mf_277_170 mf_277_174
        simp (disch := omega) only [ev_S, ev_P, ↓reduceIte, Nat.reduceEqDiff, Nat.reduceLeDiff, Nat.reduceAdd, Nat.reduceMul, Nat.reduceSub, reduceCtorEq, l32_0, l32_1, l32_2, l32_3, l32_4, l32_5, l32_6, l32_7, l32_8, l32_9, l32_10, l32_11, l32_12, l32_13, l32_14, l32_15, l32_16, l32_17, l32_18, l32_19, l32_20, l32_21, l32_22, l32_23, l32_24, l32_25, l32_26, l32_27, l32_28, l32_29, l32_33, l32_40, l32_41, l32_44, l32_45, l32_59, l32_61, l32_91, l32_93, l32_123, l32_125, g1, a2]
        show mf_277_29 N (mf_277_L8 N F) (Int32.ofNat 1) s1 = _
        unfold mf_277_29 mf_277_33
        simp (disch := omega) only [ev_S, ev_P, ↓reduceIte, Nat.reduceEqDiff, Nat.reduceLeDiff, Nat.reduceAdd, Nat.reduceMul, Nat.reduceSub, reduceCtorEq, l32_0, l32_1, l32_2, l32_3, l32_4, l32_5, l32_6, l32_7, l32_8, l32_9, l32_10, l32_11, l32_12, l32_13, l32_14, l32_15, l32_16, l32_17, l32_18, l32_19, l32_20, l32_21, l32_22, l32_23, l32_24, l32_25, l32_26, l32_27, l32_28, l32_29, l32_33, l32_40, l32_41, l32_44, l32_45, l32_59, l32_61, l32_91, l32_93, l32_123, l32_125, h91]
      rw [hM]
      rcases p_par1 (N := N) (X := X) (q := (F - (vs.length + 1) - 10 * (d + 1)) + 10 * (d + 1)) hN a3 hV1 (by omega) with ⟨t2, s2, ls, b1, b2, b3, b4, b5, b6, b7⟩ | ⟨t2, s2, b1, b2, b3, b4, b5⟩
      · rw [show (F - (vs.length + 1) - 10 * (d + 1)) + 10 * (d + 1) + (vs.length + 1) = F by omega] at b2
        rw [b2]
        have hR : cf_173_40 N X (cf_173_L7 N X Q) (Int32.ofNat m) t = cf_173_L7 N X Q 0 (Int32.ofNat (m + 1)) t2 := by
          unfold cf_173_40 cf_173_48 cf_173_51 cf_173_58 cf_173_63 cf_173_70 cf_173_74
          simp (disch := omega) only [ev_S, ev_C, ↓reduceIte, Nat.reduceEqDiff, Nat.reduceLeDiff, Nat.reduceAdd, Nat.reduceMul, Nat.reduceSub, reduceCtorEq, l32_0, l32_1, l32_2, l32_3, l32_4, l32_5, l32_6, l32_7, l32_8, l32_9, l32_10, l32_11, l32_12, l32_13, l32_14, l32_15, l32_16, l32_17, l32_18, l32_19, l32_20, l32_21, l32_22, l32_23, l32_24, l32_25, l32_26, l32_27, l32_28, l32_29, l32_33, l32_40, l32_41, l32_44, l32_45, l32_59, l32_61, l32_91, l32_93, l32_123, l32_125, c_count, hcnt, hm1, c_kindNow, e5, a1, b1]
        rw [hR]
        have f2 : fV s s2 := (fPs.V a5).tr b7
        have G2 : gL eV aV t t2 := (a4.mono eP_V (fun _ z => z.elim)).tr b6
        rcases ih (i + 1 + 1) (vs ++ [ls]) t2 s2 (m + 1) Q (F - (vs.length + 1) - 10 * (d + 1)) (by rw [List.length_append, List.length_singleton]; omega) b4 b5 (by omega) (by omega) with ⟨t3, s3, i3, vs3, c1, c2, c3, c4, c5, c6, c7, c8⟩ | ⟨t3, s3, c1, c2, c3, c4, c5, c6⟩
        · exact Or.inl ⟨t3, s3, i3, vs3, c1, c2, by omega, c4, c5, c6, G2.tr c7, f2.tr c8⟩
        · exact Or.inr ⟨t3, s3, c1, c2, c3, gX.pre G2 c4, c5, f2.tr c6⟩
      · rw [show (F - (vs.length + 1) - 10 * (d + 1)) + 10 * (d + 1) + (vs.length + 1) = F by omega] at b2
        rw [b2]
        refine Or.inr ⟨t2, s2, ?_, rfl, b3, gX.pre (a4.mono eP_V (fun _ z => z.elim)) (b4.mono eP_V (fun _ z => z.elim)), by rw [(b4.2.2.1 7 (fun z => z) (by decide)).2.1]; exact hV1.2.2.1, (fPs.V a5).tr b5⟩
        unfold cf_173_40 cf_173_48 cf_173_51 cf_173_58 cf_173_63 cf_173_70
        simp (disch := omega) only [ev_S, ev_C, ↓reduceIte, Nat.reduceEqDiff, Nat.reduceLeDiff, Nat.reduceAdd, Nat.reduceMul, Nat.reduceSub, reduceCtorEq, l32_0, l32_1, l32_2, l32_3, l32_4, l32_5, l32_6, l32_7, l32_8, l32_9, l32_10, l32_11, l32_12, l32_13, l32_14, l32_15, l32_16, l32_17, l32_18, l32_19, l32_20, l32_21, l32_22, l32_23, l32_24, l32_25, l32_26, l32_27, l32_28, l32_29, l32_33, l32_40, l32_41, l32_44, l32_45, l32_59, l32_61, l32_91, l32_93, l32_123, l32_125, c_count, hcnt, hm1, c_kindNow, e5, a1, b1]
        rfl
    · rw [if_neg z] at g1
      have z2 : ¬ ck (TL b n)[i] = 44 := fun q => z (hci.mp q)
      refine Or.inl ⟨t, s, i, vs, ?_, ?_, Nat.le_refl _, h, hV, by omega, gL.rf, ⟨fun _ _ => rfl, fun _ _ => rfl, fun _ _ => rfl, fun _ _ => rfl⟩⟩
      · unfold cf_173_40 cf_173_48 cf_173_51 cf_173_58
        simp (disch := omega) only [ev_S, ev_C, ↓reduceIte, Nat.reduceEqDiff, Nat.reduceLeDiff, Nat.reduceAdd, Nat.reduceMul, Nat.reduceSub, reduceCtorEq, l32_0, l32_1, l32_2, l32_3, l32_4, l32_5, l32_6, l32_7, l32_8, l32_9, l32_10, l32_11, l32_12, l32_13, l32_14, l32_15, l32_16, l32_17, l32_18, l32_19, l32_20, l32_21, l32_22, l32_23, l32_24, l32_25, l32_26, l32_27, l32_28, l32_29, l32_33, l32_40, l32_41, l32_44, l32_45, l32_59, l32_61, l32_91, l32_93, l32_123, l32_125, c_count, hcnt, hm1, c_kindNow, e5, z2]
      · unfold mf_277_159 mf_277_165 mf_277_174
        simp (disch := omega) only [ev_S, ev_P, ↓reduceIte, Nat.reduceEqDiff, Nat.reduceLeDiff, Nat.reduceAdd, Nat.reduceMul, Nat.reduceSub, reduceCtorEq, l32_0, l32_1, l32_2, l32_3, l32_4, l32_5, l32_6, l32_7, l32_8, l32_9, l32_10, l32_11, l32_12, l32_13, l32_14, l32_15, l32_16, l32_17, l32_18, l32_19, l32_20, l32_21, l32_22, l32_23, l32_24, l32_25, l32_26, l32_27, l32_28, l32_29, l32_33, l32_40, l32_41, l32_44, l32_45, l32_59, l32_61, l32_91, l32_93, l32_123, l32_125, g1]
        show mf_277_29 N (mf_277_L8 N F) (Int32.ofNat 0) s = _
        unfold mf_277_29
        simp (disch := omega) only [ev_S, ev_P, ↓reduceIte, Nat.reduceEqDiff, Nat.reduceLeDiff, Nat.reduceAdd, Nat.reduceMul, Nat.reduceSub, reduceCtorEq, l32_0, l32_1, l32_2, l32_3, l32_4, l32_5, l32_6, l32_7, l32_8, l32_9, l32_10, l32_11, l32_12, l32_13, l32_14, l32_15, l32_16, l32_17, l32_18, l32_19, l32_20, l32_21, l32_22, l32_23, l32_24, l32_25, l32_26, l32_27, l32_28, l32_29, l32_33, l32_40, l32_41, l32_44, l32_45, l32_59, l32_61, l32_91, l32_93, l32_123, l32_125]
/-- the brackets and what is between -/
theorem p_head (hN : 170000 ≤ N) (h : pR b n i op t s) (h7 : (kB t 7).1 = 14) (h22 : s.1 22 = Int32.ofNat 0) : (∃ t' s' i' vs, cf_173_11 N X t = cf_173_86 N X t' ∧ mf_277 N s = some (s', none) ∧ i + 2 ≤ i' ∧ pR b n i' op t' s' ∧ VR vs t' s' ∧ vs.length ≤ 4 ∧ gL eV aV t t' ∧ fV s s') ∨ (∃ t' s', cf_173_11 N X t = some (t', .inr ()) ∧ mf_277 N s = some (s', none) ∧ pF t' s' ∧ gX eV aV t t' ∧ (kB t' 7).1 = 14 ∧ fV s s') := by
  rcases p_opens (N := N) (X := X) (c := 40) hN h (by omega) with ⟨t1, s1, a1, a2, a3, ao, a4, a5, a6⟩ | ⟨t1, s1, a1, a2, a3, a4, a5⟩
  · have q1 : pR b n (i + 1) (op + 1) (jI t1 2 4 (Int32.ofNat 0)) s1 := by
      obtain ⟨⟨x1, x2, x3, x4, x5, x6, x7, x8⟩, ⟨c4, hl, c5, c6, c7⟩, d3, d4, d5, d6, d7, d8, d9, d10⟩ := a4
      exact ⟨⟨x1, x2, x3, x4, x5, x6, x7, x8⟩, ⟨c4, hl, c5, c6, c7⟩, d3, d4, d5, d6, d7, d8, d9, d10⟩
    have g1 : gL eV aV t (jI t1 2 4 (Int32.ofNat 0)) := (a5.mono eP_V (fun _ z => z.elim)).tr ⟨fun k f r => if_neg (by omega), fun _ _ _ => rfl, fun k r1 r2 => ⟨rfl, rfl, rfl⟩, rfl, rfl, Nat.le_refl _, Nat.le_refl _, Nat.le_refl _⟩
    have V1 : VR [] (jI t1 2 4 (Int32.ofNat 0)) s1 := ⟨Nat.zero_le _, rfl, by show (kB t1 7).1 = 14; rw [(a5.2.2.1 7 (fun z => z) (by decide)).2.1]; exact h7, by rw [a6.1 22 (by omega)]; exact h22, fun k hk => absurd hk (Nat.not_lt_zero _)⟩
    have h91 : s1.1 9 = Int32.ofNat 0 := a4.2.2.2.2.2.2.2.2.2
    have hR0 : cf_173_11 N X t = ko_call 10 (cf_42 N X (jI t1 2 4 (Int32.ofNat 0))) (fun g1 v1 => co_i v1 (fun y => cf_173_29 N X y g1)) := by
      unfold cf_173_11
      rw [l32_40, a1]
      rfl
    have hM0 : mf_277 N s = mo_bi (mf_263 N (Int32.ofNat 41) s1) (fun s1 y => mf_277_20 N y s1) := by
      unfold mf_277 mf_277_0
      rw [l32_40, a2]
      show mf_277_6 N s1 = _
      unfold mf_277_6 mf_277_14
      simp (disch := omega) only [ev_S, ev_P, ↓reduceIte, Nat.reduceEqDiff, Nat.reduceLeDiff, Nat.reduceAdd, Nat.reduceMul, Nat.reduceSub, reduceCtorEq, l32_0, l32_1, l32_2, l32_3, l32_4, l32_5, l32_6, l32_7, l32_8, l32_9, l32_10, l32_11, l32_12, l32_13, l32_14, l32_15, l32_16, l32_17, l32_18, l32_19, l32_20, l32_21, l32_22, l32_23, l32_24, l32_25, l32_26, l32_27, l32_28, l32_29, l32_33, l32_40, l32_41, l32_44, l32_45, l32_59, l32_61, l32_91, l32_93, l32_123, l32_125, h91]
    generalize ht1 : jI t1 2 4 (Int32.ofNat 0) = t2 at *
    obtain ⟨hi, e5, e6, e7, hkk, ho, he, hlt, hll⟩ := q1.now
    have gs := r_isSign (N := N) (c := 41) hkk (by decide) (by decide)
    have hci : ck (TL b n)[i + 1] = 41 ↔ (TL b n)[i + 1].1 = 41 := ck_sg (by decide)
    rw [hR0, hM0, gs]
    have last : ∀ (t3 : cS) (s3 : mS) (i3 : Nat) (vs : List (List Nat)), i + 1 ≤ i3 → pR b n i3 (op + 1) t3 s3 → VR vs t3 s3 → vs.length ≤ 4 → gL eV aV t t3 → fV s s3 → (∃ t' s' i' vs, cf_173_80 N X t3 = cf_173_86 N X t' ∧ mf_277_177 N s3 = some (s', none) ∧ i + 2 ≤ i' ∧ pR b n i' op t' s' ∧ VR vs t' s' ∧ vs.length ≤ 4 ∧ gL eV aV t t' ∧ fV s s') ∨ (∃ t' s', cf_173_80 N X t3 = some (t', .inr ()) ∧ mf_277_177 N s3 = some (s', none) ∧ pF t' s' ∧ gX eV aV t t' ∧ (kB t' 7).1 = 14 ∧ fV s s') := fun t3 s3 i3 vs hi3 q3 V3 l3 G3 F3 => by
      rcases p_sign (N := N) (X := X) (c := 41) hN q3 (by omega) (fun _ => by omega) with ⟨t4, s4, b1, b2, b3, b4, b5, b6⟩ | ⟨t4, s4, b1, b2, b3, b4, b5⟩
      · rw [if_pos (by omega), Nat.add_sub_cancel] at b4
        refine Or.inl ⟨t4, s4, i3 + 1, vs, ?_, ?_, by omega, b4, V3.keep (b5.1 2 4 (by omega)) (b5.2.2.1 7 (fun z => z) (by decide)).2.1 (b6.1 22 (by omega)) (b6.2.2.2 21 (fun z => z)), l3, G3.tr (b5.mono eP_V (fun _ z => z.elim)), F3.tr (fPs.V b6)⟩
        · unfold cf_173_80
          rw [l32_41, b1]
          rfl
        · unfold mf_277_177
          rw [l32_41, b2]
          rfl
      · refine Or.inr ⟨t4, s4, ?_, ?_, b3, gX.pre G3 (b4.mono eP_V (fun _ z => z.elim)), by rw [(b4.2.2.1 7 (fun z => z) (by decide)).2.1]; exact V3.2.2.1, F3.tr (fPs.V b5)⟩
        · unfold cf_173_80
          rw [l32_41, b1]
          rfl
        · unfold mf_277_177
          rw [l32_41, b2]
          rfl
    by_cases z : (TL b n)[i + 1].1 = 41
    · rw [if_pos z]
      rw [hci.mpr z] at e5
      have hR1 : ko_call 10 (cf_42 N X t2) (fun g1 v1 => co_i v1 (fun y => cf_173_29 N X y g1)) = cf_173_80 N X t2 := by
        unfold cf_173_29
        simp (disch := omega) only [ev_S, ev_C, ↓reduceIte, Nat.reduceEqDiff, Nat.reduceLeDiff, Nat.reduceAdd, Nat.reduceMul, Nat.reduceSub, reduceCtorEq, l32_0, l32_1, l32_2, l32_3, l32_4, l32_5, l32_6, l32_7, l32_8, l32_9, l32_10, l32_11, l32_12, l32_13, l32_14, l32_15, l32_16, l32_17, l32_18, l32_19, l32_20, l32_21, l32_22, l32_23, l32_24, l32_25, l32_26, l32_27, l32_28, l32_29, l32_33, l32_40, l32_41, l32_44, l32_45, l32_59, l32_61, l32_91, l32_93, l32_123, l32_125, c_kindNow, e5]
      have hM1 : mo_bi (some (s1, some (.int 1))) (fun s1 y => mf_277_20 N y s1) = mf_277_177 N s1 := by
        show mf_277_20 N 1 s1 = _
        obtain ⟨F, rfl⟩ : ∃ F, N = F + 1 := ⟨N - 1, by omega⟩
        unfold mf_277_20 mf_277_27 mf_277_28
        simp (disch := omega) only [ev_S, ev_P, ↓reduceIte, Nat.reduceEqDiff, Nat.reduceLeDiff, Nat.reduceAdd, Nat.reduceMul, Nat.reduceSub, reduceCtorEq, l32_0, l32_1, l32_2, l32_3, l32_4, l32_5, l32_6, l32_7, l32_8, l32_9, l32_10, l32_11, l32_12, l32_13, l32_14, l32_15, l32_16, l32_17, l32_18, l32_19, l32_20, l32_21, l32_22, l32_23, l32_24, l32_25, l32_26, l32_27, l32_28, l32_29, l32_33, l32_40, l32_41, l32_44, l32_45, l32_59, l32_61, l32_91, l32_93, l32_123, l32_125]
        show mf_277_29 (F + 1) (mf_277_L8 (F + 1) F) (Int32.ofNat 0) s1 = _
        unfold mf_277_29
        simp (disch := omega) only [ev_S, ev_P, ↓reduceIte, Nat.reduceEqDiff, Nat.reduceLeDiff, Nat.reduceAdd, Nat.reduceMul, Nat.reduceSub, reduceCtorEq, l32_0, l32_1, l32_2, l32_3, l32_4, l32_5, l32_6, l32_7, l32_8, l32_9, l32_10, l32_11, l32_12, l32_13, l32_14, l32_15, l32_16, l32_17, l32_18, l32_19, l32_20, l32_21, l32_22, l32_23, l32_24, l32_25, l32_26, l32_27, l32_28, l32_29, l32_33, l32_40, l32_41, l32_44, l32_45, l32_59, l32_61, l32_91, l32_93, l32_123, l32_125]
      rw [hR1, hM1]
      exact last t2 s1 (i + 1) [] (Nat.le_refl _) q1 V1 (by decide) g1 (fPs.V a6)
    · rw [if_neg z]
      have z2 : ¬ ck (TL b n)[i + 1] = 41 := fun q => z (hci.mp q)
      have hR1 : ko_call 10 (cf_42 N X t2) (fun g1 v1 => co_i v1 (fun y => cf_173_29 N X y g1)) = ko_call 5 (cf_175 N X t2) (fun g1 v1 => co_v v1 (cf_173_L7 N X N 0 (Int32.ofNat 0) g1)) := by
        unfold cf_173_29 cf_173_34
        simp (disch := omega) only [ev_S, ev_C, ↓reduceIte, Nat.reduceEqDiff, Nat.reduceLeDiff, Nat.reduceAdd, Nat.reduceMul, Nat.reduceSub, reduceCtorEq, l32_0, l32_1, l32_2, l32_3, l32_4, l32_5, l32_6, l32_7, l32_8, l32_9, l32_10, l32_11, l32_12, l32_13, l32_14, l32_15, l32_16, l32_17, l32_18, l32_19, l32_20, l32_21, l32_22, l32_23, l32_24, l32_25, l32_26, l32_27, l32_28, l32_29, l32_33, l32_40, l32_41, l32_44, l32_45, l32_59, l32_61, l32_91, l32_93, l32_123, l32_125, c_kindNow, e5, z2]
        rfl
      have hM1 : mo_bi (some (s1, some (.int 0))) (fun s1 y => mf_277_20 N y s1) = mf_277_40 N (mf_277_L8 N ((N - 2 - 10 * (3 + 1)) + 10 * (3 + 1) + (([] : List (List Nat)).length + 1))) s1 := by
        show mf_277_20 N 0 s1 = _
        rw [show (N - 2 - 10 * (3 + 1)) + 10 * (3 + 1) + (([] : List (List Nat)).length + 1) = N - 1 by show N - 2 - 10 * (3 + 1) + 10 * (3 + 1) + (0 + 1) = N - 1; omega]
        have eN : mf_277_L8 N N 0 (Int32.ofNat 1) (Int32.ofNat 0) (Int32.ofNat 0) s1 = mf_277_L8 N (N - 1 + 1) 0 (Int32.ofNat 1) (Int32.ofNat 0) (Int32.ofNat 0) s1 := by rw [show N - 1 + 1 = N by omega]
        unfold mf_277_20 mf_277_23 mf_277_28
        simp (disch := omega) only [ev_S, ev_P, ↓reduceIte, Nat.reduceEqDiff, Nat.reduceLeDiff, Nat.reduceAdd, Nat.reduceMul, Nat.reduceSub, reduceCtorEq, l32_0, l32_1, l32_2, l32_3, l32_4, l32_5, l32_6, l32_7, l32_8, l32_9, l32_10, l32_11, l32_12, l32_13, l32_14, l32_15, l32_16, l32_17, l32_18, l32_19, l32_20, l32_21, l32_22, l32_23, l32_24, l32_25, l32_26, l32_27, l32_28, l32_29, l32_33, l32_40, l32_41, l32_44, l32_45, l32_59, l32_61, l32_91, l32_93, l32_123, l32_125]
        rw [eN]
        show mf_277_29 N (mf_277_L8 N (N - 1)) (Int32.ofNat 1) s1 = _
        unfold mf_277_29 mf_277_33
        simp (disch := omega) only [ev_S, ev_P, ↓reduceIte, Nat.reduceEqDiff, Nat.reduceLeDiff, Nat.reduceAdd, Nat.reduceMul, Nat.reduceSub, reduceCtorEq, l32_0, l32_1, l32_2, l32_3, l32_4, l32_5, l32_6, l32_7, l32_8, l32_9, l32_10, l32_11, l32_12, l32_13, l32_14, l32_15, l32_16, l32_17, l32_18, l32_19, l32_20, l32_21, l32_22, l32_23, l32_24, l32_25, l32_26, l32_27, l32_28, l32_29, l32_33, l32_40, l32_41, l32_44, l32_45, l32_59, l32_61, l32_91, l32_93, l32_123, l32_125, h91]
      rw [hR1, hM1]
      rcases p_par1 (N := N) (X := X) (q := (N - 2 - 10 * (3 + 1)) + 10 * (3 + 1)) hN q1 V1 (by decide) with ⟨t3, s3, ls, b1, b2, b3, b4, b5, b6, b7⟩ | ⟨t3, s3, b1, b2, b3, b4, b5⟩
      · rw [b1, b2]
        have G3 := g1.tr b6
        have F3 := (fPs.V a6).tr b7
        show (∃ t' s' i' vs, cf_173_L7 N X N 0 (Int32.ofNat 0) t3 = _ ∧ _) ∨ (∃ t' s', cf_173_L7 N X N 0 (Int32.ofNat 0) t3 = _ ∧ _)
        rcases p_parL (N := N) (X := X) (b := b) (n := n) (op := op + 1) hN 3 (i + 1 + 1) ([] ++ [ls]) t3 s3 0 N (N - 2 - 10 * (3 + 1)) (by simp) b4 b5 (Nat.zero_le _) (by omega) with ⟨t4, s4, i4, vs4, c1, c2, c3, c4, c5, c6, c7, c8⟩ | ⟨t4, s4, c1, c2, c3, c4, c5, c6⟩
        · rw [c1, c2]
          exact last t4 s4 i4 vs4 (by omega) c4 c5 c6 (G3.tr c7) (F3.tr c8)
        · exact Or.inr ⟨t4, s4, c1, c2, c3, gX.pre G3 c4, c5, F3.tr c6⟩
      · exact Or.inr ⟨t3, s3, by rw [b1]; rfl, b2, b3, gX.pre g1 (b4.mono eP_V (fun _ z => z.elim)), by rw [(b4.2.2.1 7 (fun z => z) (by decide)).2.1]; exact V1.2.2.1, (fPs.V a6).tr b5⟩
  · obtain ⟨x, y, v1, v2, v3, v4, v5, v6, v7⟩ := a3
    refine Or.inr ⟨t1, s1, ?_, ?_, ⟨x, y, v1, v2, v3, v4, v5, v6, v7⟩, a4.mono eP_V (fun _ z => z.elim), by rw [(a4.2.2.1 7 (fun z => z) (by decide)).2.1]; exact h7, fPs.V a5⟩
    · unfold cf_173_11
      rw [l32_40, a1]
      rfl
    · unfold mf_277 mf_277_0
      rw [l32_40, a2]
      show mf_277_6 N s1 = _
      unfold mf_277_6 mf_277_13
      simp (disch := omega) only [ev_S, ev_P, ↓reduceIte, Nat.reduceEqDiff, Nat.reduceLeDiff, Nat.reduceAdd, Nat.reduceMul, Nat.reduceSub, reduceCtorEq, l32_0, l32_1, l32_2, l32_3, l32_4, l32_5, l32_6, l32_7, l32_8, l32_9, l32_10, l32_11, l32_12, l32_13, l32_14, l32_15, l32_16, l32_17, l32_18, l32_19, l32_20, l32_21, l32_22, l32_23, l32_24, l32_25, l32_26, l32_27, l32_28, l32_29, l32_33, l32_40, l32_41, l32_44, l32_45, l32_59, l32_61, l32_91, l32_93, l32_123, l32_125, v6]
end PRL
