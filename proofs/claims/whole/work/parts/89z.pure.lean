/-! ===== PURE: atoms (1) ===== -/
section ATO
variable {N : Nat} {X : Nat → Option zz_C} {t t' : cS} {s s' s0 s1 s2 : mS} {b : Nat → Nat} {n p e i i0 op D D' : Nat} {code code1 code2 fl : List Ins} {vs : List (List Nat)} {cl : List Cn} {W W' : List Wt} {cu cu' : List Nat} {fs : Nat × Nat × Nat} {al : Int32} {rk : Nat → List Value → cS → kO} {Z : List (Nat × Nat)} {ah : Option (Nat × Nat)}
/-- both write -/
theorem PEg.bo {c : Ins} {cp : List Cn} {js : Nat} {k a v x1 x2 x3 x4 : Int32} (h : PEg b n p e i op D code code vs cl cp W cu fs t s) (hcv : c.1 = 9 ∨ c.1 = 10 → ∃ x ∈ cp, x.1 = code.length) (hjs : (js = fs.2.1 ∧ noJ c) ∨ js = code.length + 1) (hI : cI code (posC code code.length) c = [(k, a, v)]) (hR : rI e code c = [(x1, x2, x3, 0, x4)]) (hc : tgO code.length c) (he : eff c cu = some cu') (ho : okI vs.length c) (hD : D' + 1 ≤ D) (hD2 : rlen c + xlen c ≤ 1 ∨ D' + (rlen c + xlen c) ≤ D) : ∃ t' s', cf_209 N X p k a v t = some (t', .inl (some (.int (Int32.ofNat (cx code))))) ∧ mf_271 N x1 x2 x3 x4 s = some (s', some (.int (Int32.ofNat (ob0 e + rl code)))) ∧ PEg b n p e i op D' (code ++ [c]) (code ++ [c]) vs cl cp W cu' (fs.1, js, fs.2.2) t' s' ∧ FR p e t t' s s' ∧ fO e s s' := by
  have hrl := h.rle
  obtain ⟨t', a1, a2, a3⟩ := h.em1 (N := N) (X := X) hcv hjs hI hc he ho hD hD2
  obtain ⟨s', b1, b2, b3⟩ := r_order (N := N) (x1 := x1) (x2 := x2) (x3 := x3) (x4 := x4) a2.2.2.1 (by rw [RA_len]; omega)
  rw [RA_len] at b1
  obtain ⟨c1, c2⟩ := a2.rEm (fl := []) (s' := s') hc rfl (by rw [hR]; exact b2) b3
  exact ⟨t', s', a1, b1, c1, a3.tr c2, b3⟩
theorem PE.bo {c : Ins} {k a v x1 x2 x3 x4 : Int32} (h : PE b n p e i op D code code vs cl W cu fs t s) (hI : cI code (posC code code.length) c = [(k, a, v)]) (hR : rI e code c = [(x1, x2, x3, 0, x4)]) (hc : tgO code.length c) (he : eff c cu = some cu') (ho : okI vs.length c) (hD : D' + 1 ≤ D) (hD2 : rlen c + xlen c ≤ 1 ∨ D' + (rlen c + xlen c) ≤ D) (hx : xp c := by unfold xp noJ; simp) : ∃ t' s', cf_209 N X p k a v t = some (t', .inl (some (.int (Int32.ofNat (cx code))))) ∧ mf_271 N x1 x2 x3 x4 s = some (s', some (.int (Int32.ofNat (ob0 e + rl code)))) ∧ PE b n p e i op D' (code ++ [c]) (code ++ [c]) vs cl W cu' fs t' s' ∧ FR p e t t' s s' ∧ fO e s s' := PEg.bo h (fun z => absurd z hx.1) (Or.inl ⟨rfl, hx.2⟩) hI hR hc he ho hD hD2
/-- a list, and how its start is told -/
theorem p_list2 {F q a least most pl np : Nat} {nm : Int64} (hN : 170000 ≤ N) (hSX : SX N X b n p e F) (hQ : okQ q a least most) (ho1 : 1 ≤ op) (hF : 10 * (10 - op) + 10 ≤ F) (hWl : W.length + 1 ≤ 6 * op) (h : PE b n p e i op D code code vs cl (W ++ [(q, a, 0, pl, nm, np)]) cu fs t s) (hwn : rWn s) (hD1 : 1 ≤ D) (hi0 : i0 + 1 ≤ i) (H1 : (∀ hi : i < (TL b n).length, (TL b n)[i].1 = (if q = 5 then 93 else 41)) → ∀ s2, mf_290 N s = some (s2, some (.int (Int32.ofNat 1))) → ∀ f, LL N (f + 1) al (Int32.ofNat 0) s0 = LL N f al (Int32.ofNat 1) s2) (H2 : (∀ hi : i < (TL b n).length, ¬ (TL b n)[i].1 = (if q = 5 then 93 else 41)) → ∀ f, LL N (f + 1) al (Int32.ofNat 0) s0 = LL N f al (Int32.ofNat 0) s) : (∃ t' s1 c' i' seg vs' cl' k, cf_194_5 N X (cf_S0 N X F) (Int32.ofNat (if q = 5 then 93 else 41)) (Int32.ofNat least) (Int32.ofNat most) t = some (t', .inl (some (.int (Int32.ofNat c')))) ∧ i < i' ∧ k + i0 ≤ i' ∧ PE b n p e i' (op - 1) (D + c' + (1 - c')) (code ++ seg) (code ++ seg) vs' cl' W (List.replicate c' 0 ++ cu) fs t' s1 ∧ slt s1 W.length (q, a, c', pl, nm, np) ∧ least ≤ c' ∧ c' ≤ most ∧ FR p e t t' s s1 ∧ ∀ s2, E2 N q W.length (Int32.ofNat c') s1 = some (s2, some (.int (Int32.ofNat 1))) → ∀ f, LL N (f + k) al (Int32.ofNat 0) s0 = LL N f al (Int32.ofNat 1) s2) ∨ (∃ t' s' k, cf_194_5 N X (cf_S0 N X F) (Int32.ofNat (if q = 5 then 93 else 41)) (Int32.ofNat least) (Int32.ofNat most) t = some (t', .inr ()) ∧ k + i0 ≤ (TL b n).length + 1 ∧ pF t' s' ∧ FX p e t t' s s' ∧ ∀ f, LL N (f + k) al (Int32.ofNat 0) s0 = some (s', none)) := by
  obtain ⟨hi, -⟩ := h.1.now
  rcases p_list (al := al) hN hSX hQ ho1 hF hWl h hwn hD1 with ⟨t', s1, c', i', seg, vs', cl', k, y1, y2, y3, y4, y5, y6, y7, y8, y9⟩ | ⟨t', s', k, y1, y2, y3, y4, y5, y6⟩
  · by_cases z : (TL b n)[i].1 = (if q = 5 then 93 else 41)
    · refine Or.inl ⟨t', s1, c', i', seg, vs', cl', 1, y1, y2, by omega, y4, y5, y6, y7, y8, fun s2 he2 f => ?_⟩
      exact H1 (fun _ => z) s2 ((y9 s2 he2).1 hi z) f
    · refine Or.inl ⟨t', s1, c', i', seg, vs', cl', k + 1, y1, y2, by omega, y4, y5, y6, y7, y8, fun s2 he2 f => ?_⟩
      rw [← Nat.add_assoc, H2 (fun _ => z)]
      exact (y9 s2 he2).2 (fun _ => z) f
  · by_cases z : (TL b n)[i].1 = (if q = 5 then 93 else 41)
    · refine Or.inr ⟨t', s', 2, y1, by omega, y3, y4, fun f => ?_⟩
      obtain ⟨x, y, v1, v2, v3, v4, v5, v6, v7⟩ := y3
      rw [show f + 2 = (f + 1) + 1 by omega, H1 (fun _ => z) s' (y5 hi z)]
      exact LL_f (N := N) v6 ⟨v1, v2⟩
    · refine Or.inr ⟨t', s', k + 1, y1, by omega, y3, y4, fun f => ?_⟩
      rw [← Nat.add_assoc, H2 (fun _ => z)]
      exact y6 (fun _ => z) f
/-- the reference's wrong at an atom's start -/
theorem p_wr (h : PE b n p e i op D code code1 vs cl W cu fs t s) (hr : mf_286 N s = mf_286_215 N s) : ∃ t', cf_202 N X 0 2 t = some (t', .inr ()) ∧ ∀ R, R = some (t', .inr ()) → FLT N b n p e i al (Int32.ofNat 0) t s R := by
  obtain ⟨hi, -⟩ := h.1.now
  have h9 : s.1 9 = Int32.ofNat 0 := h.1.2.2.2.2.2.2.2.2.2
  obtain ⟨t', s', a1, a2, a3, a4, a5⟩ := p_wrong (N := N) (X := X) h.1
  refine ⟨t', a1, fun R hR => ⟨t', s', 2, hR, by omega, fun f => ?_, a3, a4.mono eP_Q (fun _ z => z.elim), fPs.Q a5, h.oB.kp (a5.1 28 (by omega)), h.szF a4⟩⟩
  obtain ⟨x, y, v1, v2, v3, v4, v5, v6, v7⟩ := a3
  rw [show f + 2 = (f + 1) + 1 by omega, LL_0 h9, hr]
  unfold mf_286_215 mf_286_219
  simp (disch := omega) only [ev_S, ev_P, ↓reduceIte, Nat.reduceEqDiff, Nat.reduceLeDiff, Nat.reduceAdd, Nat.reduceMul, Nat.reduceSub, reduceCtorEq, l32_0, l32_1, l32_2, l32_3, l32_4, l32_5, l32_6, l32_7, l32_8, l32_9, l32_10, l32_11, l32_12, l32_13, l32_14, l32_15, l32_16, l32_17, l32_18, l32_19, l32_20, l32_21, l32_22, l32_23, l32_24, l32_25, l32_26, l32_27, l32_28, l32_29, l32_33, l32_40, l32_41, l32_44, l32_45, l32_59, l32_61, l32_91, l32_93, l32_123, l32_125, a2]
  exact LL_f (N := N) v6 ⟨v1, v2⟩
/-- a number -/
theorem p_num (hN : 170000 ≤ N) (h : PE b n p e i op D code code vs cl W cu fs t s) (hD1 : 1 ≤ D) (hk : ∀ hi : i < (TL b n).length, (TL b n)[i].1 = 2) : RS N b n p e i op D code W cu fs al t s (cf_190 N X rk t) := by
  obtain ⟨hi, e5, e6, e7, hkk, ho, he, hlt, hll⟩ := h.1.now
  have hk := hk hi
  have h9 : s.1 9 = Int32.ofNat 0 := h.1.2.2.2.2.2.2.2.2.2
  have hst := st_num hN h.1.2.2.2.2.2.2.2.1 hkk hk
  have hv : s.2.1 7 = Int64.ofNat (TL b n)[i].2.1 := by
    obtain ⟨y1, y2, y3 | y3 | y3 | y3 | y3⟩ := hkk
    · omega
    · omega
    · exact y3.2.2.1
    · omega
    · omega
  have hc3 : kL t 3 7 = Int64.ofNat (TL b n)[i].2.1 := by
    rw [e7]
    unfold c3
    rw [if_neg (by omega), if_pos hk]
  have hc5 : kI t 3 5 = Int32.ofNat 2 := by
    rw [e5]
    unfold ck
    rw [if_neg (by omega), hk]
  have hP : kP t 2 1 = some p := h.2.1.1
  have hp : (p = 12 ∨ p = 21) = True := eq_true h.2.1.2.1
  obtain ⟨t1, s1, a1, a2, a3, a4, a5⟩ := h.bo (N := N) (X := X) (c := (0, 0, 0, Int32.ofNat (TL b n)[i].2.1, Int32.ofNat (TL b n)[i].2.2.2.1, 0, 0)) (D' := D - 1) (k := Int32.ofNat 0) (a := Int32.ofNat (TL b n)[i].2.1) (v := Int32.ofNat (TL b n)[i].2.2.2.1) (x1 := Int32.ofNat 2) (x2 := Int32.ofNat (TL b n)[i].2.1) (x3 := Int32.ofNat 0) (x4 := Int32.ofNat (TL b n)[i].2.2.2.1) rfl rfl (Or.inr (Or.inl (Nat.zero_le _))) rfl (by unfold okI; simp) (by omega) (Or.inl (by unfold rlen xlen; simp))
  obtain ⟨t2, s2, b1, b2, b3, b4, b5⟩ := a3.adv (N := N) (X := X) hN (fun _ => by omega)
  rw [show D - 1 + 1 = D by omega] at b3
  refine Or.inl ⟨t2, s2, 1, i + 1, [_], vs, cl, ?_, by omega, by omega, fun f => ?_, b3, a4.tr ⟨b4, b5⟩⟩
  · unfold cf_190 cf_190_0 cf_190_7 cf_190_15
    simp (disch := omega) only [ev_S, ev_C, ↓reduceIte, Nat.reduceEqDiff, Nat.reduceLeDiff, Nat.reduceAdd, Nat.reduceMul, Nat.reduceSub, reduceCtorEq, l32_0, l32_1, l32_2, l32_3, l32_4, l32_5, l32_6, l32_7, l32_8, l32_9, l32_10, l32_11, l32_12, l32_13, l32_14, l32_15, l32_16, l32_17, l32_18, l32_19, l32_20, l32_21, l32_22, l32_23, l32_24, l32_25, l32_26, l32_27, l32_28, l32_29, l32_33, l32_40, l32_41, l32_44, l32_45, l32_59, l32_61, l32_91, l32_93, l32_123, l32_125, c_placeNow, c_kindNow, hc5, e6]
    unfold cf_190_56 cf_190_68 cf_190_73 cf_190_81 cf_190_176
    simp (disch := omega) only [ev_S, ev_C, ↓reduceIte, Nat.reduceEqDiff, Nat.reduceLeDiff, Nat.reduceAdd, Nat.reduceMul, Nat.reduceSub, reduceCtorEq, l32_0, l32_1, l32_2, l32_3, l32_4, l32_5, l32_6, l32_7, l32_8, l32_9, l32_10, l32_11, l32_12, l32_13, l32_14, l32_15, l32_16, l32_17, l32_18, l32_19, l32_20, l32_21, l32_22, l32_23, l32_24, l32_25, l32_26, l32_27, l32_28, l32_29, l32_33, l32_40, l32_41, l32_44, l32_45, l32_59, l32_61, l32_91, l32_93, l32_123, l32_125, c_valueNow, hP, hp, hc3, Int64.toInt32_ofNat', a1, b1]
  · rw [LL_0 h9, hst]
    unfold mf_286_18 mf_286_30 mf_286_35
    simp (disch := omega) only [ev_S, ev_P, ↓reduceIte, Nat.reduceEqDiff, Nat.reduceLeDiff, Nat.reduceAdd, Nat.reduceMul, Nat.reduceSub, reduceCtorEq, l32_0, l32_1, l32_2, l32_3, l32_4, l32_5, l32_6, l32_7, l32_8, l32_9, l32_10, l32_11, l32_12, l32_13, l32_14, l32_15, l32_16, l32_17, l32_18, l32_19, l32_20, l32_21, l32_22, l32_23, l32_24, l32_25, l32_26, l32_27, l32_28, l32_29, l32_33, l32_40, l32_41, l32_44, l32_45, l32_59, l32_61, l32_91, l32_93, l32_123, l32_125, hv, Int64.toInt32_ofNat', a2, b2]
theorem ck3 {k : Tk} : ck k = 3 ↔ k.1 = 3 ∧ wix k.2.2.1 = none := by
  unfold ck
  by_cases c : k.1 = 3
  · rw [if_pos c]
    cases wix k.2.2.1 with
    | none => simp [c]
    | some w => simp
  · rw [if_neg c]
    constructor
    · intro h
      exact absurd h c
    · intro h
      exact absurd h.1 c
theorem ck4 {k : Tk} : ck k = 4 ↔ (k.1 = 3 ∧ ∃ w, wix k.2.2.1 = some w) ∨ k.1 = 4 := by
  unfold ck
  by_cases c : k.1 = 3
  · rw [if_pos c]
    cases wix k.2.2.1 with
    | none => simp [c]
    | some w => simp [c]
  · rw [if_neg c]
    constructor
    · intro h
      exact Or.inr h
    · intro h
      rcases h with h | h
      · exact absurd h.1 c
      · exact h
theorem c_nxt (h : pR b n i op t s) (hj : i + 1 < (TL b n).length) : cf_242 N X t = some (t, .inl (some (.int (Int32.ofNat (ck (TL b n)[i + 1]))))) := by
  have h4 : kI t 3 4 = Int32.ofNat i := h.2.1.1
  have h3 := h.cnt
  have hll := h.now
  obtain ⟨hi, e5, e6, e7, hkk, ho, he, hlt, hll⟩ := hll
  have hl : (TL b n).length ≤ (kA t 4).1 := by
    have := h.1.2.2.2.2.1
    rw [List.length_map] at this
    exact this
  have hv := (h.1.2.1 (i + 1) (by rw [List.length_map]; exact hj)).1
  rw [List.getElem_map, c3_1] at hv
  have hb := h.1.2.2.2.2.2.2.1
  unfold cf_242 cf_242_0 cf_242_13 cf_242_28
  simp (disch := omega) only [ev_S, ev_C, ↓reduceIte, Nat.reduceEqDiff, Nat.reduceLeDiff, Nat.reduceAdd, Nat.reduceMul, Nat.reduceSub, reduceCtorEq, l32_0, l32_1, l32_2, l32_3, l32_4, l32_5, l32_6, l32_7, l32_8, l32_9, l32_10, l32_11, l32_12, l32_13, l32_14, l32_15, l32_16, l32_17, l32_18, l32_19, l32_20, l32_21, l32_22, l32_23, l32_24, l32_25, l32_26, l32_27, l32_28, l32_29, l32_33, l32_40, l32_41, l32_44, l32_45, l32_59, l32_61, l32_91, l32_93, l32_123, l32_125, h3, h4, hv]
theorem TL_next (hi : i < (TL b n).length) (h : 2 ≤ (TL b n)[i].1) : ∃ hj : i + 1 < (TL b n).length, (TL b n)[i + 1] = lex b n (TL b n)[i].2.2.2.2 := by
  have h1 := TL_ok hi
  have hj : i + 1 < (TL b n).length := by
    have := h1.2.1
    omega
  exact ⟨hj, h1.2.2 hj⟩
theorem st_word {k : Tk} {w : Nat} (hN : 170000 ≤ N) (hw : rWd s) (h : rTk s k) (hk : k.1 = 3) (hx : wix k.2.2.1 = some w) (hw4 : w < 41) : mf_286 N s = if 11 ≤ w then mf_286_180 N (Int32.ofNat k.2.2.2.1) (Int32.ofNat w) s else mf_286_215 N s := by
  have g0 := r_wordHere hN hw h
  rw [if_pos hk, hx] at g0
  have g1 := r_isSign (N := N) (c := 45) h (by decide) (by decide)
  have g2 := r_isSign (N := N) (c := 33) h (by decide) (by decide)
  have g3 := r_isSign (N := N) (c := 40) h (by decide) (by decide)
  have g4 := r_isSign (N := N) (c := 91) h (by decide) (by decide)
  rw [if_neg (by omega)] at g1 g2 g3 g4
  obtain ⟨x1, x2, x3⟩ := h
  have h5 : s.1 5 = Int32.ofNat 1 := by
    rcases x3 with y3 | y3 | y3 | y3 | y3
    · omega
    · omega
    · omega
    · exact y3.2.1
    · omega
  have g0 : mf_265 N s = some (s, some (.int (Int32.ofNat w))) := g0
  by_cases c : 11 ≤ w
  · rw [if_pos c]
    unfold mf_286 mf_286_0 mf_286_9
    simp (disch := omega) only [ev_S, ev_P, ↓reduceIte, Nat.reduceEqDiff, Nat.reduceLeDiff, Nat.reduceAdd, Nat.reduceMul, Nat.reduceSub, reduceCtorEq, l32_0, l32_1, l32_2, l32_3, l32_4, l32_5, l32_6, l32_7, l32_8, l32_9, l32_10, l32_11, l32_12, l32_13, l32_14, l32_15, l32_16, l32_17, l32_18, l32_19, l32_20, l32_21, l32_22, l32_23, l32_24, l32_25, l32_26, l32_27, l32_28, l32_29, l32_33, l32_40, l32_41, l32_44, l32_45, l32_59, l32_61, l32_91, l32_93, l32_123, l32_125, g0, x1, h5]
    unfold mf_286_37 mf_286_43
    simp (disch := omega) only [ev_S, ev_P, ↓reduceIte, Nat.reduceEqDiff, Nat.reduceLeDiff, Nat.reduceAdd, Nat.reduceMul, Nat.reduceSub, reduceCtorEq, l32_0, l32_1, l32_2, l32_3, l32_4, l32_5, l32_6, l32_7, l32_8, l32_9, l32_10, l32_11, l32_12, l32_13, l32_14, l32_15, l32_16, l32_17, l32_18, l32_19, l32_20, l32_21, l32_22, l32_23, l32_24, l32_25, l32_26, l32_27, l32_28, l32_29, l32_33, l32_40, l32_41, l32_44, l32_45, l32_59, l32_61, l32_91, l32_93, l32_123, l32_125, g1]
    unfold mf_286_46 mf_286_52
    simp (disch := omega) only [ev_S, ev_P, ↓reduceIte, Nat.reduceEqDiff, Nat.reduceLeDiff, Nat.reduceAdd, Nat.reduceMul, Nat.reduceSub, reduceCtorEq, l32_0, l32_1, l32_2, l32_3, l32_4, l32_5, l32_6, l32_7, l32_8, l32_9, l32_10, l32_11, l32_12, l32_13, l32_14, l32_15, l32_16, l32_17, l32_18, l32_19, l32_20, l32_21, l32_22, l32_23, l32_24, l32_25, l32_26, l32_27, l32_28, l32_29, l32_33, l32_40, l32_41, l32_44, l32_45, l32_59, l32_61, l32_91, l32_93, l32_123, l32_125, g2]
    unfold mf_286_80 mf_286_86
    simp (disch := omega) only [ev_S, ev_P, ↓reduceIte, Nat.reduceEqDiff, Nat.reduceLeDiff, Nat.reduceAdd, Nat.reduceMul, Nat.reduceSub, reduceCtorEq, l32_0, l32_1, l32_2, l32_3, l32_4, l32_5, l32_6, l32_7, l32_8, l32_9, l32_10, l32_11, l32_12, l32_13, l32_14, l32_15, l32_16, l32_17, l32_18, l32_19, l32_20, l32_21, l32_22, l32_23, l32_24, l32_25, l32_26, l32_27, l32_28, l32_29, l32_33, l32_40, l32_41, l32_44, l32_45, l32_59, l32_61, l32_91, l32_93, l32_123, l32_125, g3]
    unfold mf_286_104 mf_286_110
    simp (disch := omega) only [ev_S, ev_P, ↓reduceIte, Nat.reduceEqDiff, Nat.reduceLeDiff, Nat.reduceAdd, Nat.reduceMul, Nat.reduceSub, reduceCtorEq, l32_0, l32_1, l32_2, l32_3, l32_4, l32_5, l32_6, l32_7, l32_8, l32_9, l32_10, l32_11, l32_12, l32_13, l32_14, l32_15, l32_16, l32_17, l32_18, l32_19, l32_20, l32_21, l32_22, l32_23, l32_24, l32_25, l32_26, l32_27, l32_28, l32_29, l32_33, l32_40, l32_41, l32_44, l32_45, l32_59, l32_61, l32_91, l32_93, l32_123, l32_125, g4]
    unfold mf_286_155 mf_286_163
    simp (disch := omega) only [ev_S, ev_P, ↓reduceIte, Nat.reduceEqDiff, Nat.reduceLeDiff, Nat.reduceAdd, Nat.reduceMul, Nat.reduceSub, reduceCtorEq, l32_0, l32_1, l32_2, l32_3, l32_4, l32_5, l32_6, l32_7, l32_8, l32_9, l32_10, l32_11, l32_12, l32_13, l32_14, l32_15, l32_16, l32_17, l32_18, l32_19, l32_20, l32_21, l32_22, l32_23, l32_24, l32_25, l32_26, l32_27, l32_28, l32_29, l32_33, l32_40, l32_41, l32_44, l32_45, l32_59, l32_61, l32_91, l32_93, l32_123, l32_125, h5, c]
  · rw [if_neg c]
    unfold mf_286 mf_286_0 mf_286_9
    simp (disch := omega) only [ev_S, ev_P, ↓reduceIte, Nat.reduceEqDiff, Nat.reduceLeDiff, Nat.reduceAdd, Nat.reduceMul, Nat.reduceSub, reduceCtorEq, l32_0, l32_1, l32_2, l32_3, l32_4, l32_5, l32_6, l32_7, l32_8, l32_9, l32_10, l32_11, l32_12, l32_13, l32_14, l32_15, l32_16, l32_17, l32_18, l32_19, l32_20, l32_21, l32_22, l32_23, l32_24, l32_25, l32_26, l32_27, l32_28, l32_29, l32_33, l32_40, l32_41, l32_44, l32_45, l32_59, l32_61, l32_91, l32_93, l32_123, l32_125, g0, x1, h5]
    unfold mf_286_37 mf_286_43
    simp (disch := omega) only [ev_S, ev_P, ↓reduceIte, Nat.reduceEqDiff, Nat.reduceLeDiff, Nat.reduceAdd, Nat.reduceMul, Nat.reduceSub, reduceCtorEq, l32_0, l32_1, l32_2, l32_3, l32_4, l32_5, l32_6, l32_7, l32_8, l32_9, l32_10, l32_11, l32_12, l32_13, l32_14, l32_15, l32_16, l32_17, l32_18, l32_19, l32_20, l32_21, l32_22, l32_23, l32_24, l32_25, l32_26, l32_27, l32_28, l32_29, l32_33, l32_40, l32_41, l32_44, l32_45, l32_59, l32_61, l32_91, l32_93, l32_123, l32_125, g1]
    unfold mf_286_46 mf_286_52
    simp (disch := omega) only [ev_S, ev_P, ↓reduceIte, Nat.reduceEqDiff, Nat.reduceLeDiff, Nat.reduceAdd, Nat.reduceMul, Nat.reduceSub, reduceCtorEq, l32_0, l32_1, l32_2, l32_3, l32_4, l32_5, l32_6, l32_7, l32_8, l32_9, l32_10, l32_11, l32_12, l32_13, l32_14, l32_15, l32_16, l32_17, l32_18, l32_19, l32_20, l32_21, l32_22, l32_23, l32_24, l32_25, l32_26, l32_27, l32_28, l32_29, l32_33, l32_40, l32_41, l32_44, l32_45, l32_59, l32_61, l32_91, l32_93, l32_123, l32_125, g2]
    unfold mf_286_80 mf_286_86
    simp (disch := omega) only [ev_S, ev_P, ↓reduceIte, Nat.reduceEqDiff, Nat.reduceLeDiff, Nat.reduceAdd, Nat.reduceMul, Nat.reduceSub, reduceCtorEq, l32_0, l32_1, l32_2, l32_3, l32_4, l32_5, l32_6, l32_7, l32_8, l32_9, l32_10, l32_11, l32_12, l32_13, l32_14, l32_15, l32_16, l32_17, l32_18, l32_19, l32_20, l32_21, l32_22, l32_23, l32_24, l32_25, l32_26, l32_27, l32_28, l32_29, l32_33, l32_40, l32_41, l32_44, l32_45, l32_59, l32_61, l32_91, l32_93, l32_123, l32_125, g3]
    unfold mf_286_104 mf_286_110
    simp (disch := omega) only [ev_S, ev_P, ↓reduceIte, Nat.reduceEqDiff, Nat.reduceLeDiff, Nat.reduceAdd, Nat.reduceMul, Nat.reduceSub, reduceCtorEq, l32_0, l32_1, l32_2, l32_3, l32_4, l32_5, l32_6, l32_7, l32_8, l32_9, l32_10, l32_11, l32_12, l32_13, l32_14, l32_15, l32_16, l32_17, l32_18, l32_19, l32_20, l32_21, l32_22, l32_23, l32_24, l32_25, l32_26, l32_27, l32_28, l32_29, l32_33, l32_40, l32_41, l32_44, l32_45, l32_59, l32_61, l32_91, l32_93, l32_123, l32_125, g4]
    unfold mf_286_155 mf_286_163 mf_286_169 mf_286_187 mf_286_195
    simp (disch := omega) only [ev_S, ev_P, ↓reduceIte, Nat.reduceEqDiff, Nat.reduceLeDiff, Nat.reduceAdd, Nat.reduceMul, Nat.reduceSub, reduceCtorEq, l32_0, l32_1, l32_2, l32_3, l32_4, l32_5, l32_6, l32_7, l32_8, l32_9, l32_10, l32_11, l32_12, l32_13, l32_14, l32_15, l32_16, l32_17, l32_18, l32_19, l32_20, l32_21, l32_22, l32_23, l32_24, l32_25, l32_26, l32_27, l32_28, l32_29, l32_33, l32_40, l32_41, l32_44, l32_45, l32_59, l32_61, l32_91, l32_93, l32_123, l32_125, h5, c]
theorem st_name {k : Tk} {u : Nat} (hN : 170000 ≤ N) (hw : rWd s) (h : rTk s k) (hk : k.1 = 3) (hx : wix k.2.2.1 = none) (hu : mf_270 N s = some (s, some (.int (Int32.ofNat u)))) (hu2 : u ≤ 1) : mf_286 N s = if u = 1 then mf_286_180 N (Int32.ofNat k.2.2.2.1) (-Int32.ofNat 1) s else mf_286_199 N (Int32.ofNat k.2.2.2.1) s := by
  have g0 := r_wordHere hN hw h
  rw [if_pos hk, hx] at g0
  have g1 := r_isSign (N := N) (c := 45) h (by decide) (by decide)
  have g2 := r_isSign (N := N) (c := 33) h (by decide) (by decide)
  have g3 := r_isSign (N := N) (c := 40) h (by decide) (by decide)
  have g4 := r_isSign (N := N) (c := 91) h (by decide) (by decide)
  rw [if_neg (by omega)] at g1 g2 g3 g4
  obtain ⟨x1, x2, x3⟩ := h
  have h5 : s.1 5 = Int32.ofNat 1 := by
    rcases x3 with y3 | y3 | y3 | y3 | y3
    · omega
    · omega
    · omega
    · exact y3.2.1
    · omega
  have g0 : mf_265 N s = some (s, some (.int (-Int32.ofNat 1))) := g0
  have q1 : (Int32.ofNat 11 ≤ -Int32.ofNat 1) = False := by decide
  have q2 : (Int32.ofNat 0 ≤ -Int32.ofNat 1) = False := by decide
  by_cases c : u = 1
  · rw [if_pos c]
    rw [c] at hu
    unfold mf_286 mf_286_0 mf_286_9
    simp (disch := omega) only [ev_S, ev_P, ↓reduceIte, Nat.reduceEqDiff, Nat.reduceLeDiff, Nat.reduceAdd, Nat.reduceMul, Nat.reduceSub, reduceCtorEq, l32_0, l32_1, l32_2, l32_3, l32_4, l32_5, l32_6, l32_7, l32_8, l32_9, l32_10, l32_11, l32_12, l32_13, l32_14, l32_15, l32_16, l32_17, l32_18, l32_19, l32_20, l32_21, l32_22, l32_23, l32_24, l32_25, l32_26, l32_27, l32_28, l32_29, l32_33, l32_40, l32_41, l32_44, l32_45, l32_59, l32_61, l32_91, l32_93, l32_123, l32_125, g0, x1, h5]
    unfold mf_286_37 mf_286_43
    simp (disch := omega) only [ev_S, ev_P, ↓reduceIte, Nat.reduceEqDiff, Nat.reduceLeDiff, Nat.reduceAdd, Nat.reduceMul, Nat.reduceSub, reduceCtorEq, l32_0, l32_1, l32_2, l32_3, l32_4, l32_5, l32_6, l32_7, l32_8, l32_9, l32_10, l32_11, l32_12, l32_13, l32_14, l32_15, l32_16, l32_17, l32_18, l32_19, l32_20, l32_21, l32_22, l32_23, l32_24, l32_25, l32_26, l32_27, l32_28, l32_29, l32_33, l32_40, l32_41, l32_44, l32_45, l32_59, l32_61, l32_91, l32_93, l32_123, l32_125, g1]
    unfold mf_286_46 mf_286_52
    simp (disch := omega) only [ev_S, ev_P, ↓reduceIte, Nat.reduceEqDiff, Nat.reduceLeDiff, Nat.reduceAdd, Nat.reduceMul, Nat.reduceSub, reduceCtorEq, l32_0, l32_1, l32_2, l32_3, l32_4, l32_5, l32_6, l32_7, l32_8, l32_9, l32_10, l32_11, l32_12, l32_13, l32_14, l32_15, l32_16, l32_17, l32_18, l32_19, l32_20, l32_21, l32_22, l32_23, l32_24, l32_25, l32_26, l32_27, l32_28, l32_29, l32_33, l32_40, l32_41, l32_44, l32_45, l32_59, l32_61, l32_91, l32_93, l32_123, l32_125, g2]
    unfold mf_286_80 mf_286_86
    simp (disch := omega) only [ev_S, ev_P, ↓reduceIte, Nat.reduceEqDiff, Nat.reduceLeDiff, Nat.reduceAdd, Nat.reduceMul, Nat.reduceSub, reduceCtorEq, l32_0, l32_1, l32_2, l32_3, l32_4, l32_5, l32_6, l32_7, l32_8, l32_9, l32_10, l32_11, l32_12, l32_13, l32_14, l32_15, l32_16, l32_17, l32_18, l32_19, l32_20, l32_21, l32_22, l32_23, l32_24, l32_25, l32_26, l32_27, l32_28, l32_29, l32_33, l32_40, l32_41, l32_44, l32_45, l32_59, l32_61, l32_91, l32_93, l32_123, l32_125, g3]
    unfold mf_286_104 mf_286_110
    simp (disch := omega) only [ev_S, ev_P, ↓reduceIte, Nat.reduceEqDiff, Nat.reduceLeDiff, Nat.reduceAdd, Nat.reduceMul, Nat.reduceSub, reduceCtorEq, l32_0, l32_1, l32_2, l32_3, l32_4, l32_5, l32_6, l32_7, l32_8, l32_9, l32_10, l32_11, l32_12, l32_13, l32_14, l32_15, l32_16, l32_17, l32_18, l32_19, l32_20, l32_21, l32_22, l32_23, l32_24, l32_25, l32_26, l32_27, l32_28, l32_29, l32_33, l32_40, l32_41, l32_44, l32_45, l32_59, l32_61, l32_91, l32_93, l32_123, l32_125, g4]
    unfold mf_286_155 mf_286_163 mf_286_169 mf_286_173 mf_286_177
    simp (disch := omega) only [ev_S, ev_P, ↓reduceIte, Nat.reduceEqDiff, Nat.reduceLeDiff, Nat.reduceAdd, Nat.reduceMul, Nat.reduceSub, reduceCtorEq, l32_0, l32_1, l32_2, l32_3, l32_4, l32_5, l32_6, l32_7, l32_8, l32_9, l32_10, l32_11, l32_12, l32_13, l32_14, l32_15, l32_16, l32_17, l32_18, l32_19, l32_20, l32_21, l32_22, l32_23, l32_24, l32_25, l32_26, l32_27, l32_28, l32_29, l32_33, l32_40, l32_41, l32_44, l32_45, l32_59, l32_61, l32_91, l32_93, l32_123, l32_125, h5, q1, q2, hu]
  · rw [if_neg c]
    have c0 : u = 0 := by omega
    rw [c0] at hu
    unfold mf_286 mf_286_0 mf_286_9
    simp (disch := omega) only [ev_S, ev_P, ↓reduceIte, Nat.reduceEqDiff, Nat.reduceLeDiff, Nat.reduceAdd, Nat.reduceMul, Nat.reduceSub, reduceCtorEq, l32_0, l32_1, l32_2, l32_3, l32_4, l32_5, l32_6, l32_7, l32_8, l32_9, l32_10, l32_11, l32_12, l32_13, l32_14, l32_15, l32_16, l32_17, l32_18, l32_19, l32_20, l32_21, l32_22, l32_23, l32_24, l32_25, l32_26, l32_27, l32_28, l32_29, l32_33, l32_40, l32_41, l32_44, l32_45, l32_59, l32_61, l32_91, l32_93, l32_123, l32_125, g0, x1, h5]
    unfold mf_286_37 mf_286_43
    simp (disch := omega) only [ev_S, ev_P, ↓reduceIte, Nat.reduceEqDiff, Nat.reduceLeDiff, Nat.reduceAdd, Nat.reduceMul, Nat.reduceSub, reduceCtorEq, l32_0, l32_1, l32_2, l32_3, l32_4, l32_5, l32_6, l32_7, l32_8, l32_9, l32_10, l32_11, l32_12, l32_13, l32_14, l32_15, l32_16, l32_17, l32_18, l32_19, l32_20, l32_21, l32_22, l32_23, l32_24, l32_25, l32_26, l32_27, l32_28, l32_29, l32_33, l32_40, l32_41, l32_44, l32_45, l32_59, l32_61, l32_91, l32_93, l32_123, l32_125, g1]
    unfold mf_286_46 mf_286_52
    simp (disch := omega) only [ev_S, ev_P, ↓reduceIte, Nat.reduceEqDiff, Nat.reduceLeDiff, Nat.reduceAdd, Nat.reduceMul, Nat.reduceSub, reduceCtorEq, l32_0, l32_1, l32_2, l32_3, l32_4, l32_5, l32_6, l32_7, l32_8, l32_9, l32_10, l32_11, l32_12, l32_13, l32_14, l32_15, l32_16, l32_17, l32_18, l32_19, l32_20, l32_21, l32_22, l32_23, l32_24, l32_25, l32_26, l32_27, l32_28, l32_29, l32_33, l32_40, l32_41, l32_44, l32_45, l32_59, l32_61, l32_91, l32_93, l32_123, l32_125, g2]
    unfold mf_286_80 mf_286_86
    simp (disch := omega) only [ev_S, ev_P, ↓reduceIte, Nat.reduceEqDiff, Nat.reduceLeDiff, Nat.reduceAdd, Nat.reduceMul, Nat.reduceSub, reduceCtorEq, l32_0, l32_1, l32_2, l32_3, l32_4, l32_5, l32_6, l32_7, l32_8, l32_9, l32_10, l32_11, l32_12, l32_13, l32_14, l32_15, l32_16, l32_17, l32_18, l32_19, l32_20, l32_21, l32_22, l32_23, l32_24, l32_25, l32_26, l32_27, l32_28, l32_29, l32_33, l32_40, l32_41, l32_44, l32_45, l32_59, l32_61, l32_91, l32_93, l32_123, l32_125, g3]
    unfold mf_286_104 mf_286_110
    simp (disch := omega) only [ev_S, ev_P, ↓reduceIte, Nat.reduceEqDiff, Nat.reduceLeDiff, Nat.reduceAdd, Nat.reduceMul, Nat.reduceSub, reduceCtorEq, l32_0, l32_1, l32_2, l32_3, l32_4, l32_5, l32_6, l32_7, l32_8, l32_9, l32_10, l32_11, l32_12, l32_13, l32_14, l32_15, l32_16, l32_17, l32_18, l32_19, l32_20, l32_21, l32_22, l32_23, l32_24, l32_25, l32_26, l32_27, l32_28, l32_29, l32_33, l32_40, l32_41, l32_44, l32_45, l32_59, l32_61, l32_91, l32_93, l32_123, l32_125, g4]
    unfold mf_286_155 mf_286_163 mf_286_169 mf_286_173 mf_286_177 mf_286_187 mf_286_195
    simp (disch := omega) only [ev_S, ev_P, ↓reduceIte, Nat.reduceEqDiff, Nat.reduceLeDiff, Nat.reduceAdd, Nat.reduceMul, Nat.reduceSub, reduceCtorEq, l32_0, l32_1, l32_2, l32_3, l32_4, l32_5, l32_6, l32_7, l32_8, l32_9, l32_10, l32_11, l32_12, l32_13, l32_14, l32_15, l32_16, l32_17, l32_18, l32_19, l32_20, l32_21, l32_22, l32_23, l32_24, l32_25, l32_26, l32_27, l32_28, l32_29, l32_33, l32_40, l32_41, l32_44, l32_45, l32_59, l32_61, l32_91, l32_93, l32_123, l32_125, h5, q1, q2, hu]
/-- a variable -/
theorem p_get (hN : 170000 ≤ N) (h : PE b n p e i op D code code vs cl W cu fs t s) (hk : ∀ hi : i < (TL b n).length, ck (TL b n)[i] = 3 ∧ ∀ hj : i + 1 < (TL b n).length, ¬ (TL b n)[i + 1].1 = 40) : RS N b n p e i op D code W cu fs al t s (cf_190 N X rk t) := by
  obtain ⟨hi, e5, e6, e7, hkk, ho, he, hlt, hll⟩ := h.1.now
  obtain ⟨hk, hk2⟩ := hk hi
  have h9 : s.1 9 = Int32.ofNat 0 := h.1.2.2.2.2.2.2.2.2.2
  obtain ⟨k1, k2⟩ := ck3.mp hk
  obtain ⟨hj, hj2⟩ := TL_next hi (by omega)
  have hk2 := hk2 hj
  have nx := c_nxt (N := N) (X := X) h.1 hj
  have hnk : ¬ ck (TL b n)[i + 1] = 40 := fun y => hk2 ((ck_sg (by decide)).mp y)
  have bh := r_behind hN h.1.2.2.2.2.2.1 hkk he
  rw [← hj2, if_neg hk2] at bh
  have hst := st_name (u := 0) hN h.1.2.2.2.2.2.2.2.1 hkk k1 k2 bh (by omega)
  rw [if_neg (by decide)] at hst
  have hlt2 : ck (TL b n)[i + 1] < 512 := by
    obtain ⟨t1, s1, _, _, a3, _⟩ := h.adv (N := N) (X := X) hN (fun _ => by omega)
    obtain ⟨_, _, _, _, _, _, _, z, _⟩ := a3.1.now
    exact z
  rw [hk] at e5
  have hP : kP t 2 1 = some p := h.2.1.1
  have hp : (p = 12 ∨ p = 21) = True := eq_true h.2.1.2.1
  rcases h.nam (N := N) (X := X) hN with ⟨r, t1, s1, vs1, a1, a2, a3, a4, a5, a6⟩ | ⟨t1, s1, a1, a2, a3, a4, a5⟩
  · obtain ⟨t2, s2, b1, b2, b3, b4, b5⟩ := a4.bo (N := N) (X := X) (c := (1, 0, r, 0, Int32.ofNat (TL b n)[i].2.2.2.1, 0, 0)) (D' := D) (k := Int32.ofNat 1) (a := cv r) (v := Int32.ofNat (TL b n)[i].2.2.2.1) (x1 := Int32.ofNat 3) (x2 := Int32.ofNat r) (x3 := Int32.ofNat 0) (x4 := Int32.ofNat (TL b n)[i].2.2.2.1) rfl rfl (Or.inr (Or.inl (Nat.zero_le _))) rfl (by unfold okI; simp; exact a5) (by omega) (Or.inl (by unfold rlen xlen; simp))
    refine Or.inl ⟨t2, s2, 1, i + 1, [_], vs1, cl, ?_, by omega, by omega, fun f => ?_, b3, a6.tr b4⟩
    · unfold cf_190 cf_190_0 cf_190_7 cf_190_15
      simp (disch := omega) only [ev_S, ev_C, ↓reduceIte, Nat.reduceEqDiff, Nat.reduceLeDiff, Nat.reduceAdd, Nat.reduceMul, Nat.reduceSub, reduceCtorEq, l32_0, l32_1, l32_2, l32_3, l32_4, l32_5, l32_6, l32_7, l32_8, l32_9, l32_10, l32_11, l32_12, l32_13, l32_14, l32_15, l32_16, l32_17, l32_18, l32_19, l32_20, l32_21, l32_22, l32_23, l32_24, l32_25, l32_26, l32_27, l32_28, l32_29, l32_33, l32_40, l32_41, l32_44, l32_45, l32_59, l32_61, l32_91, l32_93, l32_123, l32_125, c_placeNow, c_kindNow, e5, e6]
      unfold cf_190_84 cf_190_91 cf_190_103 cf_190_112 cf_190_116 cf_190_176
      simp (disch := omega) only [ev_S, ev_C, ↓reduceIte, Nat.reduceEqDiff, Nat.reduceLeDiff, Nat.reduceAdd, Nat.reduceMul, Nat.reduceSub, reduceCtorEq, l32_0, l32_1, l32_2, l32_3, l32_4, l32_5, l32_6, l32_7, l32_8, l32_9, l32_10, l32_11, l32_12, l32_13, l32_14, l32_15, l32_16, l32_17, l32_18, l32_19, l32_20, l32_21, l32_22, l32_23, l32_24, l32_25, l32_26, l32_27, l32_28, l32_29, l32_33, l32_40, l32_41, l32_44, l32_45, l32_59, l32_61, l32_91, l32_93, l32_123, l32_125, nx, hnk, hP, hp, a1, b1]
    · rw [LL_0 h9, hst]
      unfold mf_286_199 mf_286_203 mf_286_212
      simp (disch := omega) only [ev_S, ev_P, ↓reduceIte, Nat.reduceEqDiff, Nat.reduceLeDiff, Nat.reduceAdd, Nat.reduceMul, Nat.reduceSub, reduceCtorEq, l32_0, l32_1, l32_2, l32_3, l32_4, l32_5, l32_6, l32_7, l32_8, l32_9, l32_10, l32_11, l32_12, l32_13, l32_14, l32_15, l32_16, l32_17, l32_18, l32_19, l32_20, l32_21, l32_22, l32_23, l32_24, l32_25, l32_26, l32_27, l32_28, l32_29, l32_33, l32_40, l32_41, l32_44, l32_45, l32_59, l32_61, l32_91, l32_93, l32_123, l32_125, a2, b2]
  · obtain ⟨x, y, v1, v2, v3, v4, v5, v6, v7⟩ := a3
    have hcr := h.2.2.1.keep (a5.1 12 (by omega)) (a5.1 28 (by omega)) (fun q _ => a5.2.2.1 q (fun z => z))
    have hrl := h.rle
    obtain ⟨s2, c1, c2, c3⟩ := r_order (N := N) (x1 := Int32.ofNat 3) (x2 := Int32.ofNat 0) (x3 := Int32.ofNat 0) (x4 := Int32.ofNat (TL b n)[i].2.2.2.1) hcr (by rw [RA_len]; omega)
    refine Or.inr ⟨t1, s2, 2, ?_, by omega, fun f => ?_, pF.post ⟨x, y, v1, v2, v3, v4, v5, v6, v7⟩ (c3.1 9 (by decide)) (c3.1 10 (by decide)), a4.post (fO.Q c3) (c2.oB (by rw [List.length_append, RA_len, List.length_singleton]; omega))⟩
    · unfold cf_190 cf_190_0 cf_190_7 cf_190_15
      simp (disch := omega) only [ev_S, ev_C, ↓reduceIte, Nat.reduceEqDiff, Nat.reduceLeDiff, Nat.reduceAdd, Nat.reduceMul, Nat.reduceSub, reduceCtorEq, l32_0, l32_1, l32_2, l32_3, l32_4, l32_5, l32_6, l32_7, l32_8, l32_9, l32_10, l32_11, l32_12, l32_13, l32_14, l32_15, l32_16, l32_17, l32_18, l32_19, l32_20, l32_21, l32_22, l32_23, l32_24, l32_25, l32_26, l32_27, l32_28, l32_29, l32_33, l32_40, l32_41, l32_44, l32_45, l32_59, l32_61, l32_91, l32_93, l32_123, l32_125, c_placeNow, c_kindNow, e5, e6]
      unfold cf_190_84 cf_190_91 cf_190_103
      simp (disch := omega) only [ev_S, ev_C, ↓reduceIte, Nat.reduceEqDiff, Nat.reduceLeDiff, Nat.reduceAdd, Nat.reduceMul, Nat.reduceSub, reduceCtorEq, l32_0, l32_1, l32_2, l32_3, l32_4, l32_5, l32_6, l32_7, l32_8, l32_9, l32_10, l32_11, l32_12, l32_13, l32_14, l32_15, l32_16, l32_17, l32_18, l32_19, l32_20, l32_21, l32_22, l32_23, l32_24, l32_25, l32_26, l32_27, l32_28, l32_29, l32_33, l32_40, l32_41, l32_44, l32_45, l32_59, l32_61, l32_91, l32_93, l32_123, l32_125, nx, hnk, hP, hp, a1]
      rfl
    · rw [show f + 2 = (f + 1) + 1 by omega, LL_0 h9, hst]
      unfold mf_286_199 mf_286_203 mf_286_212
      simp (disch := omega) only [ev_S, ev_P, ↓reduceIte, Nat.reduceEqDiff, Nat.reduceLeDiff, Nat.reduceAdd, Nat.reduceMul, Nat.reduceSub, reduceCtorEq, l32_0, l32_1, l32_2, l32_3, l32_4, l32_5, l32_6, l32_7, l32_8, l32_9, l32_10, l32_11, l32_12, l32_13, l32_14, l32_15, l32_16, l32_17, l32_18, l32_19, l32_20, l32_21, l32_22, l32_23, l32_24, l32_25, l32_26, l32_27, l32_28, l32_29, l32_33, l32_40, l32_41, l32_44, l32_45, l32_59, l32_61, l32_91, l32_93, l32_123, l32_125, a2, c1]
      exact LL_f (N := N) ((c3.1 9 (by decide)).trans v6) ⟨v1, v2⟩
end ATO
