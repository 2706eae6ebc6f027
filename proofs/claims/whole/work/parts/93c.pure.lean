/-! ===== PURE: statements (2): whole expressions; rounds of the reference over the text ===== -/
def FRs (p e : Nat) (t t' : cS) (s s' : mS) : Prop := gL (eQ p) (aQ p) t t' ∧ fS e s s'
def FXs (p e : Nat) (t t' : cS) (s s' : mS) : Prop := gX (eQ p) (aQ p) t t' ∧ fS e s s' ∧ SZ p t'
/-- the open blocks -/
def rB (s : mS) (Bs : List (Int32 × Int32 × Int32)) : Prop := s.1 37 = Int32.ofNat Bs.length ∧ Bs.length ≤ 10 ∧ ∀ k (hk : k < Bs.length), s.2.2.1 34 k = Bs[k].1 ∧ s.2.2.1 35 k = Bs[k].2.1 ∧ s.2.2.1 36 k = Bs[k].2.2
abbrev TW (N f : Nat) (s : mS) : mO := mf_63_L1 N f 0 s
section STM
variable {N : Nat} {X : Nat → Option zz_C} {t t' t1 t2 : cS} {s s' s1 s2 : mS} {b : Nat → Nat} {n p e i op D D' : Nat} {code code1 : List Ins} {vs : List (List Nat)} {cl : List Cn} {W : List Wt} {cu : List Nat} {fs : Nat × Nat × Nat} {Bs : List (Int32 × Int32 × Int32)}
theorem FR.S (h : FR p e t t' s s') : FRs p e t t' s s' := ⟨h.1, h.2.S⟩
theorem FX.S (h : FX p e t t' s s') : FXs p e t t' s s' := ⟨h.1, h.2.1.S, h.2.2.2⟩
theorem FRs.rf : FRs p e t t s s := ⟨gL.rf, fS.rf⟩
theorem FRs.tr (h : FRs p e t t1 s s1) (g : FRs p e t1 t2 s1 s2) : FRs p e t t2 s s2 := ⟨h.1.tr g.1, h.2.tr g.2⟩
theorem FRs.pre (h : FRs p e t t1 s s1) (g : FXs p e t1 t2 s1 s2) : FXs p e t t2 s s2 := ⟨gX.pre h.1 g.1, h.2.tr g.2.1, g.2.2⟩
theorem FXs.tl (h : FXs p e t t' s s1) (g : tl e s1 s2) : FXs p e t t' s s2 := ⟨h.1, h.2.1.tr g.2.2, h.2.2⟩
theorem rB.kp (h : rB s Bs) (f : fQ e s s') : rB s' Bs := by
  obtain ⟨h1, h2, h3⟩ := h
  refine ⟨by rw [f.1 37 (by omega)]; exact h1, h2, fun k hk => ?_⟩
  rw [f.2.2.1 34 (by omega), f.2.2.1 35 (by omega), f.2.2.1 36 (by omega)]
  exact h3 k hk
theorem PE.fU (h : PE b n p e i op D code code1 vs cl W cu fs t s) (hb : rB s Bs) (hF : pF t' s') (hx : FX p e t t' s s') : ∃ m, m ≤ 1900 ∧ fU e m s' := by
  obtain ⟨x, y, v1, v2, v3, v4, v5, v6, v7⟩ := hF
  obtain ⟨m, h1, h2⟩ := hx.2.2.1
  have f := hx.2.1
  refine ⟨m, h1, ⟨x, v1, v2, v6⟩, by omega, h2, h.2.2.1.2.1, ?_, Bs.length, Nat.le_trans hb.2.1 (by omega), ?_⟩
  · rw [f.1 12 (by omega)]
    exact h.2.2.1.1
  · rw [f.1 37 (by omega)]
    exact hb.1
/-- blocks alone have changed -/
theorem PE.kS (h : PE b n p e i op D code code1 vs cl W cu fs t s) (f : fBk s s') : PE b n p e i op D code code1 vs cl W cu fs t s' := by
  obtain ⟨h1, hc', hr, hw, hW, hV, k1, k2, k3, k4, k5, k6, k7⟩ := h
  exact ⟨h1.kR (fun q z => f.1 q (by omega)) (f.2.1 7 (fun z => z)) (f.2.2.1 2 (by omega)) (f.2.2.2 0 (fun z => z)), hc', hr.keep (f.1 12 (by omega)) (f.1 28 (by omega)) (fun q _ => f.2.2.1 q (by omega)), hw, hW.keep (f.1 44 (by omega)) (fun q _ => f.2.2.1 q (by omega)) (f.2.2.2 42 (fun z => z)), hV.keep rfl rfl (f.1 22 (by omega)) (f.2.2.2 21 (fun z => z)), k1, k2.keep (f.1 29 (by omega)) (fun q _ => f.2.2.1 q (by omega)) (f.2.2.2 33 (fun z => z)), k3, k4, k5, k6, k7⟩
/-- nothing waits -/
theorem PE.w0 (h : PE b n p e i op D code code1 vs cl W cu fs t s) : PE b n p e i op D code code1 vs cl [] cu fs t (mI s 44 0) ∧ FR p e t t s (mI s 44 0) := h.wt (W' := []) ⟨rfl, Nat.zero_le _, fun i hi => absurd hi (Nat.not_lt_zero _)⟩ ⟨fun q r => if_neg r, fun _ _ => rfl, fun _ _ => rfl, fun _ _ => rfl⟩
/-- other bounds -/
theorem PE.fsx {j q : Nat} (h : PE b n p e i op D code code1 vs cl W cu fs t s) (hj : fs.2.1 ≤ j ∧ j ≤ code.length) (hq : q ≤ vs.length) : PE b n p e i op D code code1 vs cl W cu (fs.1, j, q) t s := by
  obtain ⟨h1, hc', hr, hw, hW, hV, k1, k2, k3, ⟨y1, y2, y3, y4, y5, y6⟩, k5, k6, k7⟩ := h
  refine ⟨h1, hc', hr, hw, hW, hV, k1, k2, k3, ⟨y1, y2, y3, hj.2, fun c hc => y5 c ?_, hq⟩, k5, k6, k7⟩
  have hc : c ∈ code.drop j := hc
  rw [show j = fs.2.1 + (j - fs.2.1) by omega, ← List.drop_drop] at hc
  exact List.mem_of_mem_drop hc
theorem PE.pa (h : PE b n p e i op D code code1 vs cl W cu fs t s) : fs.2.2 ≤ vs.length := h.2.2.2.2.2.2.2.2.2.1.2.2.2.2.2
theorem PE.nj (h : PE b n p e i op D code code1 vs cl W cu fs t s) : fs.2.1 ≤ code.length ∧ ∀ c ∈ code.drop fs.2.1, noJ c := ⟨h.2.2.2.2.2.2.2.2.2.1.2.2.2.1, h.2.2.2.2.2.2.2.2.2.1.2.2.2.2.1⟩
theorem PE.ly (h : PE b n p e i op D code code1 vs cl W cu fs t s) : lyo code = some cu := h.2.2.2.2.2.2.2.2.2.1.2.1
/-- a whole E on both sides -/
theorem p_exp (hN : 170000 ≤ N) (hX : oX N X) (hY : oY X) (h : PE b n p e i op D code code vs cl W cu fs t s) (hwn : rWn s) (hD : 1 ≤ D) : (∃ t' s' i' seg vs' cl', cf_S0 N X 150 186 [.int (Int32.ofNat 0)] t = some (t', .inl none) ∧ mf_285 N (Int32.ofNat 0) s = some (s', none) ∧ i < i' ∧ vs.length ≤ vs'.length ∧ PE b n p e i' op D (code ++ seg) (code ++ seg) vs' cl' [] (0 :: cu) fs t' s' ∧ FR p e t t' s s') ∨ (∃ t' s', cf_S0 N X 150 186 [.int (Int32.ofNat 0)] t = some (t', .inr ()) ∧ mf_285 N (Int32.ofNat 0) s = some (s', none) ∧ pF t' s' ∧ FX p e t t' s s') := by
  obtain ⟨h0, f0⟩ := h.w0
  have hM : mf_285 N (Int32.ofNat 0) s = LL N N (Int32.ofNat 0) (Int32.ofNat 0) (mI s 44 0) := rfl
  have hop := h.1.2.2.2.1
  obtain ⟨hi, e5, e6, e7, hkk, ho, he, hlt, hll⟩ := h.1.now
  rcases p_SX hN hX hY 150 0 i op D code vs cl [] cu (fs.1, fs.2.1, vs.length) (Int32.ofNat 0) t (mI s 44 0) (by decide) (h0.fsx ⟨Nat.le_refl _, h.nj.1⟩ (Nat.le_refl _)) (hwn.kp f0.2) (Or.inl rfl) (Nat.zero_le _) (Or.inl rfl) (by omega) hD with ⟨t', s1, k, i', seg, code1, vs', cl', Z, ah, x1, x2, x3, x4, x5, x6, x7, x8, x9, x10⟩ | ⟨t', s1, k, x1, x2, x3, x4, x5⟩
  · obtain ⟨s5, d1, d2, d3⟩ := PE.flu (N := N) (al := Int32.ofNat 0) hN x5 x6 x7 (fun z hh => ⟨(x8 z hh).1, (x8 z hh).2.2⟩) x9 (Or.inl rfl) (Or.inl rfl)
    obtain ⟨hi', -⟩ := x5.1.now
    have hpa : vs.length ≤ vs'.length := d2.pa
    refine Or.inl ⟨t', s5, i', seg, vs', cl', x1, ?_, x2, hpa, d2.fsx (fs := (fs.1, fs.2.1, vs.length)) ⟨Nat.le_refl _, d2.nj.1⟩ (Nat.le_trans h.pa hpa), f0.tr (x10.tr d3)⟩
    have e1 : LL N N (Int32.ofNat 0) (Int32.ofNat 0) (mI s 44 0) = LL N ((N - k - 1) + 1 + k) (Int32.ofNat 0) (Int32.ofNat 0) (mI s 44 0) := by
      rw [show (N - k - 1) + 1 + k = N by omega]
    rw [hM, e1, x4, d1]
    exact L215_0 d2.2.2.2.2.1
  · refine Or.inr ⟨t', s1, x1, ?_, x4, f0.pre x5⟩
    have e1 : LL N N (Int32.ofNat 0) (Int32.ofNat 0) (mI s 44 0) = LL N ((N - k) + k) (Int32.ofNat 0) (Int32.ofNat 0) (mI s 44 0) := by
      rw [show (N - k) + k = N by omega]
    rw [hM, e1]
    exact x3 _
/-- a call that stands alone -/
theorem RS.alone {R : kO} (hN : 170000 ≤ N) (hi : i < (TL b n).length) (hl : (TL b n).length ≤ 1601) (f0 : FR p e t t s (mI s 44 0)) (h : RS N b n p e i op D code [] cu fs (Int32.ofNat 1) t (mI s 44 0) R) : (∃ t' s' i' seg vs' cl', R = some (t', .inl none) ∧ mf_285 N (Int32.ofNat 1) s = some (s', none) ∧ i < i' ∧ PE b n p e i' op D (code ++ seg) (code ++ seg) vs' cl' [] (0 :: cu) fs t' s' ∧ FR p e t t' s s') ∨ (∃ t' s', R = some (t', .inr ()) ∧ mf_285 N (Int32.ofNat 1) s = some (s', none) ∧ pF t' s' ∧ FX p e t t' s s') := by
  have hM : mf_285 N (Int32.ofNat 1) s = LL N N (Int32.ofNat 1) (Int32.ofNat 0) (mI s 44 0) := rfl
  rcases h with ⟨t', s1, k, i', seg, vs', cl', x1, x2, x3, x4, x5, x6⟩ | ⟨t', s1, k, x1, x2, x3, x4, x5⟩
  · obtain ⟨hi', -⟩ := x5.1.now
    refine Or.inl ⟨t', s1, i', seg, vs', cl', x1, ?_, x2, x5, f0.tr x6⟩
    have e1 : LL N N (Int32.ofNat 1) (Int32.ofNat 0) (mI s 44 0) = LL N ((N - k - 1) + 1 + k) (Int32.ofNat 1) (Int32.ofNat 0) (mI s 44 0) := by
      rw [show (N - k - 1) + 1 + k = N by omega]
    rw [hM, e1, x4]
    exact LL_2 x5.1.2.2.2.2.2.2.2.2.2 (by decide) x5.2.2.2.2.1.1
  · refine Or.inr ⟨t', s1, x1, ?_, x4, f0.pre x5⟩
    have e1 : LL N N (Int32.ofNat 1) (Int32.ofNat 0) (mI s 44 0) = LL N ((N - k) + k) (Int32.ofNat 1) (Int32.ofNat 0) (mI s 44 0) := by
      rw [show (N - k) + k = N by omega]
    rw [hM, e1]
    exact x3 _
theorem TW_f {f x : Nat} (h9 : s.1 9 = Int32.ofNat x) (hx : 1 ≤ x ∧ x ≤ 6) : TW N (f + 1) s = some (s, none) := by
  show mf_63_5 N (mf_63_L1 N f) s = _
  unfold mf_63_5 mf_63_68
  simp (disch := omega) only [ev_S, ev_P, ↓reduceIte, Nat.reduceEqDiff, Nat.reduceLeDiff, Nat.reduceAdd, Nat.reduceMul, Nat.reduceSub, reduceCtorEq, l32_0, l32_1, l32_2, l32_3, l32_4, l32_5, l32_6, l32_7, l32_8, l32_9, l32_10, l32_11, l32_12, l32_13, l32_14, l32_15, l32_16, l32_17, l32_18, l32_19, l32_20, l32_21, l32_22, l32_23, l32_24, l32_25, l32_26, l32_27, l32_28, l32_29, l32_33, l32_40, l32_41, l32_44, l32_45, l32_59, l32_61, l32_91, l32_93, l32_123, l32_125, h9]
theorem TW_F {f : Nat} (h : pF t s) : TW N (f + 1) s = some (s, none) := by
  obtain ⟨x, y, v1, v2, v3, v4, v5, v6, v7⟩ := h
  exact TW_f v6 ⟨v1, v2⟩
/-- a round that is a statement's, or a bracket's -/
theorem TW_s {f B : Nat} (h : pR b n i op t s) (h37 : s.1 37 = Int32.ofNat (B + 1)) (hB : B ≤ 11) : ∃ hi : i < (TL b n).length, (¬ (TL b n)[i].1 = 125 → TW N (f + 1) s = mo_bv (mf_279 N s) (fun s1 => TW N f s1)) ∧ ((TL b n)[i].1 = 125 → TW N (f + 1) s = mo_bv (mf_278 N s) (fun s1 => TW N f s1)) := by
  obtain ⟨hi, e5, e6, e7, hkk, ho, he, hlt, hll⟩ := h.now
  have h9 : s.1 9 = Int32.ofNat 0 := h.2.2.2.2.2.2.2.2.2
  have g1 := r_isSign (N := N) (c := 125) hkk (by decide) (by decide)
  refine ⟨hi, fun z => ?_, fun z => ?_⟩
  · rw [if_neg z] at g1
    show mf_63_5 N (mf_63_L1 N f) s = _
    unfold mf_63_5 mf_63_12 mf_63_26 mf_63_45 mf_63_51 mf_63_61
    simp (disch := omega) only [ev_S, ev_P, ↓reduceIte, Nat.reduceEqDiff, Nat.reduceLeDiff, Nat.reduceAdd, Nat.reduceMul, Nat.reduceSub, reduceCtorEq, l32_0, l32_1, l32_2, l32_3, l32_4, l32_5, l32_6, l32_7, l32_8, l32_9, l32_10, l32_11, l32_12, l32_13, l32_14, l32_15, l32_16, l32_17, l32_18, l32_19, l32_20, l32_21, l32_22, l32_23, l32_24, l32_25, l32_26, l32_27, l32_28, l32_29, l32_33, l32_40, l32_41, l32_44, l32_45, l32_59, l32_61, l32_91, l32_93, l32_123, l32_125, h9, h37, g1]
    rfl
  · rw [if_pos z] at g1
    show mf_63_5 N (mf_63_L1 N f) s = _
    unfold mf_63_5 mf_63_12 mf_63_26 mf_63_45 mf_63_51 mf_63_54
    simp (disch := omega) only [ev_S, ev_P, ↓reduceIte, Nat.reduceEqDiff, Nat.reduceLeDiff, Nat.reduceAdd, Nat.reduceMul, Nat.reduceSub, reduceCtorEq, l32_0, l32_1, l32_2, l32_3, l32_4, l32_5, l32_6, l32_7, l32_8, l32_9, l32_10, l32_11, l32_12, l32_13, l32_14, l32_15, l32_16, l32_17, l32_18, l32_19, l32_20, l32_21, l32_22, l32_23, l32_24, l32_25, l32_26, l32_27, l32_28, l32_29, l32_33, l32_40, l32_41, l32_44, l32_45, l32_59, l32_61, l32_91, l32_93, l32_123, l32_125, h9, h37, g1]
    rfl
/-- a block is put up, and all else stands -/
theorem rB.push {x1 x2 x3 : Int32} (h : rB s Bs) (hb : Bs.length < 10) : ∃ s', mf_276_6 N x1 x2 x3 s = some (s', none) ∧ fBk s s' ∧ rB s' (Bs ++ [(x1, x2, x3)]) := by
  obtain ⟨h1, h2, h3⟩ := h
  obtain ⟨s', a1, a2, a3, a4, a5, a6, a7⟩ := r_push (N := N) (x1 := x1) (x2 := x2) (x3 := x3) h1 (by omega)
  refine ⟨s', a1, a2, by rw [List.length_append]; exact a3, by rw [List.length_append, List.length_singleton]; omega, fun k hk => ?_⟩
  rw [List.length_append, List.length_singleton] at hk
  by_cases z : k < Bs.length
  · rw [List.getElem_append_left z, a4 34 (by omega) k (by omega), a4 35 (by omega) k (by omega), a4 36 (by omega) k (by omega)]
    exact h3 k z
  · have z : k = Bs.length := by omega
    subst z
    rw [List.getElem_append_right (Nat.le_refl _)]
    simp only [Nat.sub_self, List.getElem_cons_zero]
    exact ⟨a5, a6, a7⟩
end STM
