/-! ===== PURE: statements (11): if, its end ===== -/
section IFE
variable {N : Nat} {X : Nat → Option zz_C} {t t' t1 t2 : cS} {s s' s1 s2 : mS} {b : Nat → Nat} {n p e i i' op op' D D' : Nat} {code code1 code2 l codeE codeB segB : List Ins} {vs vs' : List (List Nat)} {cl : List Cn} {W : List Wt} {cu cu' : List Nat} {fs fs' : Nat × Nat × Nat} {Bs : List (Int32 × Int32 × Int32)} {a m z : Nat} {c c' : Ins}
theorem PE.hlen (h : PE b n p e i op D code code1 vs cl W cu fs t s) : cf_203 N X p t = some (t, .inl (some (.int (Int32.ofNat (cx code))))) := by
  have := c_len (N := N) (X := X) h.2.1
  rw [CA_len] at this
  exact this
theorem PE.hher (h : PE b n p e i op D code code1 vs cl W cu fs t s) : mf_272 N s = some (s, some (.int (Int32.ofNat (ob0 e + rl code1)))) := by
  have := r_here (N := N) h.2.2.1
  rw [RA_len] at this
  exact this
/-- an if that no else follows: the answer -/
theorem p_ifN {pl : Int32} {rk : Nat → List Value → cS → kO} (h : PE b n p e i op D codeB codeB vs cl W cu (fs.1, codeB.length, fs.2.2) t s) (hb : rB s Bs) (hpE : codeE = code ++ l) (hpB : codeB = codeE ++ [((13, unk, 0, 0, pl, 0, 0) : Ins)] ++ segB) (hl : lyo codeE = some (0 :: 5 :: cu)) (J1 : JP codeE code.length codeE.length) (J2 : JP codeB (codeE.length + 1) codeB.length) : ∃ t' s' seg, cf_181_38 N X rk (Int32.ofNat (cx codeE)) t = some (t', .inl none) ∧ mf_278_144 N (Int32.ofNat (ob0 e + rl codeE)) s = some (s', none) ∧ PE b n p e i op D (code ++ seg) (code ++ seg) vs cl W cu (fs.1, (code ++ seg).length, fs.2.2) t' s' ∧ rB s' Bs ∧ JP (code ++ seg) code.length (code ++ seg).length ∧ FR p e t t' s s' := by
  have hP : kP t 2 1 = some p := h.2.1.1
  have hp : (p = 12 ∨ p = 21) = True := eq_true h.2.1.2.1
  obtain ⟨hl1, hl2⟩ := h.len
  have hrl := h.rle
  have ho4 : ob0 e ≤ 4000 := by unfold ob0; omega
  have hpB2 : codeB = codeE ++ ([((13, unk, 0, 0, pl, 0, 0) : Ins)] ++ segB) := by rw [hpB, List.append_assoc]
  have hlB : codeE.length + 1 ≤ codeB.length := by
    rw [hpB2, List.length_append, List.length_append, List.length_singleton]
    omega
  have hlE : code.length ≤ codeE.length := by
    rw [hpE, List.length_append]
    omega
  have hcd : codeB.getD codeE.length dI = (13, unk, 0, 0, pl, 0, 0) := by
    rw [hpB, getD_appl (by rw [List.length_append, List.length_singleton]; omega)]
    exact getD_last
  obtain ⟨t7, u1, u2, u3⟩ := PE.tgt (N := N) (X := X) (m := codeE.length) h (Or.inl rfl) (by omega) hcd (by show codeE.length < codeB.length; omega) (by unfold okI; simp)
  have pC : posC codeB codeE.length = cx codeE := by rw [hpB2]; exact posC_e
  have pR : posR codeB codeE.length = rl codeE := by rw [hpB2]; exact posR_e
  rw [pC] at u1
  rw [pR] at u2 u3
  have hlen := h.hlen (N := N) (X := X)
  have hher := h.hher (N := N)
  have hrE : rl codeE ≤ rl codeB := by
    rw [hpB2, rl_app]
    omega
  obtain ⟨seg, hseg⟩ := pre_set (c' := (13, codeB.length, 0, 0, pl, 0, 0)) (m := codeE.length) (code := code) (code2 := codeB) (by rw [hpB2, hpE, List.append_assoc]) (by omega)
  rw [hseg] at u2
  have hls : (code ++ seg).length = codeB.length := by rw [← hseg, List.length_set]
  refine ⟨t7, _, seg, ?_, ?_, by rw [hls]; exact u2, hb.kp u3.2, ?_, u3⟩
  · unfold cf_181_38 cf_181_50 cf_181_53
    simp (disch := omega) only [ev_S, ev_C, ↓reduceIte, Nat.reduceEqDiff, Nat.reduceLeDiff, Nat.reduceAdd, Nat.reduceMul, Nat.reduceSub, reduceCtorEq, l32_0, l32_1, l32_2, l32_3, l32_4, l32_5, l32_6, l32_7, l32_8, l32_9, l32_10, l32_11, l32_12, l32_13, l32_14, l32_15, l32_16, l32_17, l32_18, l32_19, l32_20, l32_21, l32_22, l32_23, l32_24, l32_25, l32_26, l32_27, l32_28, l32_29, l32_33, l32_40, l32_41, l32_44, l32_45, l32_59, l32_61, l32_91, l32_93, l32_123, l32_125, hP, hp, hlen, u1]
  · generalize ob0 e = o at *
    unfold mf_278_144 mf_278_153 mf_278_154
    simp (disch := omega) only [ev_S, ev_P, ↓reduceIte, Nat.reduceEqDiff, Nat.reduceLeDiff, Nat.reduceAdd, Nat.reduceMul, Nat.reduceSub, reduceCtorEq, l32_0, l32_1, l32_2, l32_3, l32_4, l32_5, l32_6, l32_7, l32_8, l32_9, l32_10, l32_11, l32_12, l32_13, l32_14, l32_15, l32_16, l32_17, l32_18, l32_19, l32_20, l32_21, l32_22, l32_23, l32_24, l32_25, l32_26, l32_27, l32_28, l32_29, l32_33, l32_40, l32_41, l32_44, l32_45, l32_59, l32_61, l32_91, l32_93, l32_123, l32_125, hher, l32_8000]
  · rw [hls, ← hseg]
    refine JP.setx (by omega) (by rw [hcd]) (by unfold noJ; simp) (fun L => by rw [hcd]; rfl) (fun k k1 k2 k3 => ?_) (okJ_tgt (L := 0 :: 5 :: cu) (Or.inl rfl) (by omega) hcd (by omega) (by rw [take_pre hpB2]; exact hl) h.ly (Or.inl ⟨rfl, Or.inl rfl⟩))
    by_cases y : k < codeE.length
    · rw [hpB2]
      exact (J1 k k1 y).app y
    · exact (J2 k (by omega) (by omega)).lo (by omega)
/-- an if that else follows: up to the second block -/
theorem p_ifE {F : Nat} {pl : Int32} {rk : Nat → List Value → cS → kO} (hN : 170000 ≤ N) (h : PE b n p e i op D codeB codeB vs cl W (4 :: cu) (fs.1, codeB.length, fs.2.2) t s) (hb : rB s Bs) (hpE : codeE = code ++ l) (hpB : codeB = codeE ++ [((13, unk, 0, 0, pl, 0, 0) : Ins)] ++ segB) (hl : lyo codeE = some (0 :: 5 :: cu)) (J1 : JP codeE code.length codeE.length) (J2 : JP codeB (codeE.length + 1) codeB.length) (hk : ∀ hi : i < (TL b n).length, (TL b n)[i].1 = 3) : ∃ t' s' seg, cf_181_54 N X rk pl (Int32.ofNat (cx codeE)) t = cf_181_87 N X rk (Int32.ofNat (cx codeB)) t' ∧ mf_278_110 N (Int32.ofNat (ob0 e + rl codeE)) s = mo_bv (mf_276 N (Int32.ofNat 2) (Int32.ofNat (ob0 e + rl codeB)) (Int32.ofNat 0) s') (fun s => some (s, none)) ∧ ((code ++ seg).length = codeB.length + 1 ∧ (code ++ seg).getD codeB.length dI = (14, unk, 0, 0, pl, 0, 0) ∧ lyo ((code ++ seg).take codeB.length) = some (4 :: cu) ∧ posC (code ++ seg) codeB.length = cx codeB ∧ posR (code ++ seg) codeB.length = rl codeB) ∧ PE b n p e (i + 1) op D (code ++ seg) (code ++ seg) vs cl W cu (fs.1, codeB.length + 1, fs.2.2) t' s' ∧ rB s' Bs ∧ JP (code ++ seg) code.length codeB.length ∧ FR p e t t' s s' := by
  have hP : kP t 2 1 = some p := h.2.1.1
  have hp : (p = 12 ∨ p = 21) = True := eq_true h.2.1.2.1
  have hpp := h.2.1.2.1
  obtain ⟨hl1, hl2⟩ := h.len
  have hrl := h.rle
  have ho4 : ob0 e ≤ 4000 := by unfold ob0; omega
  have hpB2 : codeB = codeE ++ ([((13, unk, 0, 0, pl, 0, 0) : Ins)] ++ segB) := by rw [hpB, List.append_assoc]
  have hlB : codeE.length + 1 ≤ codeB.length := by
    rw [hpB2, List.length_append, List.length_append, List.length_singleton]
    omega
  have hlE : code.length ≤ codeE.length := by
    rw [hpE, List.length_append]
    omega
  have hrE : rl codeE ≤ rl codeB := by
    rw [hpB2, rl_app]
    omega
  have hk0 := h
  obtain ⟨h1, hc', hr', ⟨w1, w2, w3⟩, hW, hV, k1, k2, k3, k4, k5, k6, k7⟩ := hk0
  -- the code behind
  generalize hC' : codeB ++ [((14, unk, 0, 0, pl, 0, 0) : Ins)] = codeC
  have hlC : codeC.length = codeB.length + 1 := by rw [← hC', List.length_append, List.length_singleton]
  have hpC : codeC = codeE ++ ([((13, unk, 0, 0, pl, 0, 0) : Ins)] ++ segB ++ [((14, unk, 0, 0, pl, 0, 0) : Ins)]) := by
    rw [← hC', hpB2, List.append_assoc]
  have hcd : codeC.getD codeE.length dI = (13, unk, 0, 0, pl, 0, 0) := by
    rw [← hC', getD_appl (by omega), hpB, getD_appl (by rw [List.length_append, List.length_singleton]; omega)]
    exact getD_last
  have tgG : tgO codeB.length (14, unk, 0, 0, pl, 0, 0) := Or.inl rfl
  have hCA : CA codeC = CA codeB ++ [(Int32.ofNat 4, Int32.ofNat 0, pl)] := by
    rw [← hC', CA_app w1 tgG]
    rfl
  have hRA : RA e codeC = RA e codeB ++ [(Int32.ofNat 15, Int32.ofNat 0, Int32.ofNat 0, 0, Int32.ofNat 0)] := by
    rw [← hC', RA_app w1 tgG]
    rfl
  have hcx : cx codeC = cx codeB + 1 := by
    rw [← hC', cx_app, cx_one]
    rfl
  have hxC : xl codeC = xl codeB := by
    rw [← hC', xl_app, xl_one]
    rfl
  have hrC : rl codeC = rl codeB + 1 := by
    rw [← hC', rl_app, rl_one]
    rfl
  have pC : posC codeC codeE.length = cx codeE := by rw [hpC]; exact posC_e
  have pRR : posR codeC codeE.length = rl codeE := by rw [hpC]; exact posR_e
  have tc : tgC codeC codeC.length 0 = Int32.ofNat (cx codeC) := tgC_end (by omega)
  have tr : tgR e codeC codeC.length 0 = Int32.ofNat (ob0 e + rl codeC) := tgR_end (by omega)
  have hk0 : ((13, codeC.length, 0, (0 : Int32), pl, (0 : Int32), (0 : Int32)) : Ins).1 = (codeC.getD codeE.length dI).1 := by rw [hcd]
  -- the reference
  obtain ⟨s5, r1, r2, r3⟩ := r_order (N := N) (x1 := Int32.ofNat 15) (x2 := Int32.ofNat 0) (x3 := Int32.ofNat 0) (x4 := Int32.ofNat 0) hr' (by rw [RA_len]; omega)
  rw [RA_len] at r1
  rw [← hRA] at r2
  have hher : mf_272 N s5 = some (s5, some (.int (Int32.ofNat (ob0 e + rl codeC)))) := by
    have := r_here (N := N) r2
    rw [RA_len] at this
    exact this
  obtain ⟨y1, y2⟩ := r_amda (m := codeE.length) (c' := (13, codeC.length, 0, 0, pl, 0, 0)) (x1 := Int32.ofNat 14) (x2 := Int32.ofNat 0) (x3 := Int32.ofNat 0) (x4 := Int32.ofNat 0) (x5 := pl) (v := Int32.ofNat (ob0 e + rl codeC)) r2 (by omega) (rlen_k hk0) (by rw [hcd]; rfl) (by rw [← tr]; rfl)
  rw [pRR] at y1 y2
  have f6 := r3.tr y2
  generalize hs6 : mA s5 24 (upd (s5.2.2.1 24) (ob0 e + rl codeE) (Int32.ofNat (ob0 e + rl codeC))) = s6 at *
  have q6 : pR b n i op t s6 := h1.kR (fun q z => f6.1 q (by omega)) (f6.2.1 7) (f6.2.2.1 2 (by omega)) (f6.2.2.2.1 0)
  obtain ⟨hi, -⟩ := h1.now
  obtain ⟨t5, s7, v1, v2, v3, v4, v5⟩ := p_adv (N := N) (X := X) hN q6 (fun _ => by have := hk hi; omega)
  -- the class
  have cd5 : cCd t5 p (CA codeB) := hc'.keep v4 (by rcases hpp with z | z <;> subst z <;> omega) (fun _ z => z.elim) (v4.p21 (by omega))
  obtain ⟨t6, g1, g2, g3, g4⟩ := c_emit (N := N) (X := X) (k := Int32.ofNat 4) (a := Int32.ofNat 0) (v := pl) cd5 v3.1.2.2.2.2.2.2.2 (by rw [CA_len]; omega)
  rw [CA_len] at g1
  rw [← hCA] at g2
  obtain ⟨t7, d1, d2, d3, d4⟩ := c_amd (N := N) (X := X) (m := codeE.length) (c' := (13, codeC.length, 0, 0, pl, 0, 0)) (x := Int32.ofNat 5) (a0 := Int32.ofNat 0) (y := pl) (v := Int32.ofNat (cx codeC)) (lc := []) g2 (by omega) (by omega) (clen_k hk0) (by rw [hcd]; rfl) (by rw [← tc]; rfl)
  rw [pC] at d1
  have eE : ∀ k f, eC p k f → ¬ (k = 3) ∧ ¬ (k = 2 ∧ (f = 2 ∨ f = 10 ∨ f = 11)) := fun k f z => by rcases hpp with y | y <;> omega
  have eA : ∀ k, aC p k → ¬ (k = 4 ∨ k = 5 ∨ k = 6) := fun k z => by rcases hpp with y | y <;> omega
  have q7 : pR b n (i + 1) op t7 s7 := (v3.kC g3 g4 eE eA).kC d3 d4 (fun k f z => z.elim) eA
  have G : gL (eM p) (aM p) t t7 := (v4.mono eP_M (fun _ z => z.elim)).tr ((g3.mono (fun k f z => Or.inr (Or.inr z)) (fun k z => by unfold aM; omega)).tr (d3.mono (fun _ _ z => z.elim) (fun k z => by unfold aM; omega)))
  have hV7 : VR vs t7 s7 := hV.keep ((d3.1 2 4 (fun z => z)).trans ((g3.1 2 4 (fun z => by rcases hpp with y | y <;> omega)).trans (v4.1 2 4 (by omega)))) ((d3.2.2.1 7 (fun z => by rcases hpp with y | y <;> omega) (by decide)).2.1.trans ((g3.2.2.1 7 (fun z => by rcases hpp with y | y <;> omega) (by decide)).2.1.trans (v4.2.2.1 7 (fun z => z) (by decide)).2.1)) ((v5.1 22 (by omega)).trans (f6.1 22 (by omega))) ((v5.2.2.2 21 (fun z => z)).trans (f6.2.2.2.1 21))
  have hFQ : fQ e s s7 := (fO.Q f6).tr (fPs.Q v5)
  have hPE : PE b n p e (i + 1) op D (codeC.set codeE.length (13, codeC.length, 0, 0, pl, 0, 0)) (codeC.set codeE.length (13, codeC.length, 0, 0, pl, 0, 0)) vs cl W cu (fs.1, codeB.length + 1, fs.2.2) t7 s7 := by
    refine h.asm q7 d2 (y1.keep (v5.1 12 (by omega)) (v5.1 28 (by omega)) (fun q _ => v5.2.2.1 q (fun z => z))) ?_ hV7 G (fun q z => (v5.1 q (by omega)).trans (f6.1 q (by omega))) (fun q z => (v5.2.2.1 q (fun z => z)).trans (f6.2.2.1 q (by omega))) (fun q z => (v5.2.2.2 q (fun z => z)).trans (f6.2.2.2.1 q)) (fun j hj => ?_) ?_ ?_ ?_ ?_ ?_
    · rw [← hC']
      exact (wfC_app w1 (Or.inl rfl)).set (Nat.le_refl _)
    · rw [posC_set (clen_k hk0), posR_set (rlen_k hk0), ← hC']
      exact ⟨posC_app hj, posR_app hj⟩
    · rw [← hC'] at hcd hk0 ⊢
      refine okX.set (k3.app (fun z => absurd z (by simp))) ?_ hk0 (by unfold noJ; simp)
      rw [List.length_append, List.length_singleton]
      omega
    · rw [← hC'] at hcd ⊢
      refine TY.set (k4.app (Nat.le_refl _) (cu' := cu) rfl (by unfold okI; simp) (Or.inr rfl)) (fun L => by rw [hcd]; rfl) (by unfold okI; simp) ?_
      show codeE.length < codeB.length + 1
      omega
    · rw [rl_set (rlen_k hk0), xl_set (xlen_k hk0 (by unfold noJ; simp)), hrC, hxC]
      omega
    · rw [rl_set (rlen_k hk0), hrC]
      omega
    · rw [cx_set (clen_k hk0), hcx]
      omega
  obtain ⟨seg, hseg⟩ := pre_set (c' := (13, codeC.length, 0, 0, pl, 0, 0)) (m := codeE.length) (code := code) (code2 := codeC) (by rw [hpC, hpE, List.append_assoc]) (by omega)
  refine ⟨t7, s7, seg, ?_, ?_, ?_, by rw [← hseg]; exact hPE, hb.kp hFQ, ?_, ⟨gM_Q G, hFQ⟩⟩
  · have hP5 : kP t5 2 1 = some p := cd5.1
    have hP6 : kP t6 2 1 = some p := g2.1
    have hlen : cf_203 N X p t6 = some (t6, .inl (some (.int (Int32.ofNat (cx codeC))))) := by
      have := c_len (N := N) (X := X) g2
      rw [CA_len] at this
      exact this
    unfold cf_181_54 cf_181_61 cf_181_71 cf_181_84
    simp (disch := omega) only [ev_S, ev_C, ↓reduceIte, Nat.reduceEqDiff, Nat.reduceLeDiff, Nat.reduceAdd, Nat.reduceMul, Nat.reduceSub, reduceCtorEq, l32_0, l32_1, l32_2, l32_3, l32_4, l32_5, l32_6, l32_7, l32_8, l32_9, l32_10, l32_11, l32_12, l32_13, l32_14, l32_15, l32_16, l32_17, l32_18, l32_19, l32_20, l32_21, l32_22, l32_23, l32_24, l32_25, l32_26, l32_27, l32_28, l32_29, l32_33, l32_40, l32_41, l32_44, l32_45, l32_59, l32_61, l32_91, l32_93, l32_123, l32_125, v1, hP5, hp, g1, hP6, hlen, d1]
  · have e1 : mf_278_110 N (Int32.ofNat (ob0 e + rl codeE)) s = mf_278_134 N (Int32.ofNat (ob0 e + rl codeB)) s7 := by
      generalize ob0 e = o at *
      unfold mf_278_110 mf_278_119 mf_278_129
      simp (disch := omega) only [ev_S, ev_P, ↓reduceIte, Nat.reduceEqDiff, Nat.reduceLeDiff, Nat.reduceAdd, Nat.reduceMul, Nat.reduceSub, reduceCtorEq, l32_0, l32_1, l32_2, l32_3, l32_4, l32_5, l32_6, l32_7, l32_8, l32_9, l32_10, l32_11, l32_12, l32_13, l32_14, l32_15, l32_16, l32_17, l32_18, l32_19, l32_20, l32_21, l32_22, l32_23, l32_24, l32_25, l32_26, l32_27, l32_28, l32_29, l32_33, l32_40, l32_41, l32_44, l32_45, l32_59, l32_61, l32_91, l32_93, l32_123, l32_125, r1, hher, hs6, v2, l32_8000]
    rw [e1]
    rfl
  · rw [← hseg, List.length_set, getD_set_ne (by omega), lyo_set_take (fun L => by rw [hcd]; rfl), posC_set (clen_k hk0), posR_set (rlen_k hk0)]
    refine ⟨hlC, ?_, ?_, ?_, ?_⟩
    · rw [← hC']
      exact getD_last
    · rw [← hC', List.take_left]
      exact h.ly
    · rw [← hC']
      exact posC_e
    · rw [← hC']
      exact posR_e
  · rw [← hseg]
    refine JP.setx (by omega) (by rw [hcd]) (by unfold noJ; simp) (fun L => by rw [hcd]; rfl) (fun k k1 k2 k3 => ?_) (okJ_tgt (L := 0 :: 5 :: cu) (cu := cu) (Or.inl rfl) (by omega) hcd (by omega) (by rw [take_pre hpC]; exact hl) ?_ (Or.inl ⟨rfl, Or.inl rfl⟩))
    · by_cases y : k < codeE.length
      · rw [hpC]
        exact (J1 k k1 y).app y
      · rw [← hC']
        exact ((J2 k (by omega) (by omega)).lo (by omega)).app (by omega)
    · have := hPE.ly
      rw [lyo_set (fun L => by rw [hcd]; rfl)] at this
      exact this
end IFE
