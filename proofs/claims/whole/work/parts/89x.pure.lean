/-! ===== PURE: a list (2); what an atom starts with ===== -/
section LIT
variable {N : Nat} {X : Nat → Option zz_C} {t t' : cS} {s s' s1 s2 : mS} {b : Nat → Nat} {n p e i op D D' : Nat} {code code1 code2 fl : List Ins} {vs : List (List Nat)} {cl : List Cn} {W W' : List Wt} {cu cu' : List Nat} {fs : Nat × Nat × Nat} {al : Int32} {rk : Nat → List Value → cS → kO} {Z : List (Nat × Nat)} {ah : Option (Nat × Nat)}
theorem p_list {F q a least most pl np : Nat} {nm : Int64} (hN : 170000 ≤ N) (hSX : SX N X b n p e F) (hQ : okQ q a least most) (ho1 : 1 ≤ op) (hF : 10 * (10 - op) + 10 ≤ F) (hWl : W.length + 1 ≤ 6 * op) (h : PE b n p e i op D code code vs cl (W ++ [(q, a, 0, pl, nm, np)]) cu fs t s) (hwn : rWn s) (hD1 : 1 ≤ D) : (∃ t' s1 c' i' seg vs' cl' k, cf_194_5 N X (cf_S0 N X F) (Int32.ofNat (if q = 5 then 93 else 41)) (Int32.ofNat least) (Int32.ofNat most) t = some (t', .inl (some (.int (Int32.ofNat c')))) ∧ i < i' ∧ k + i ≤ i' ∧ PE b n p e i' (op - 1) (D + c' + (1 - c')) (code ++ seg) (code ++ seg) vs' cl' W (List.replicate c' 0 ++ cu) fs t' s1 ∧ slt s1 W.length (q, a, c', pl, nm, np) ∧ least ≤ c' ∧ c' ≤ most ∧ FR p e t t' s s1 ∧ ∀ s2, E2 N q W.length (Int32.ofNat c') s1 = some (s2, some (.int (Int32.ofNat 1))) → ((∀ hi : i < (TL b n).length, (TL b n)[i].1 = (if q = 5 then 93 else 41) → mf_290 N s = some (s2, some (.int (Int32.ofNat 1)))) ∧ ((∀ hi : i < (TL b n).length, ¬ (TL b n)[i].1 = (if q = 5 then 93 else 41)) → ∀ f, LL N (f + k) al (Int32.ofNat 0) s = LL N f al (Int32.ofNat 1) s2))) ∨ (∃ t' s' k, cf_194_5 N X (cf_S0 N X F) (Int32.ofNat (if q = 5 then 93 else 41)) (Int32.ofNat least) (Int32.ofNat most) t = some (t', .inr ()) ∧ k + i ≤ (TL b n).length + 1 ∧ pF t' s' ∧ FX p e t t' s s' ∧ (∀ hi : i < (TL b n).length, (TL b n)[i].1 = (if q = 5 then 93 else 41) → mf_290 N s = some (s', some (.int (Int32.ofNat 1)))) ∧ ((∀ hi : i < (TL b n).length, ¬ (TL b n)[i].1 = (if q = 5 then 93 else 41)) → ∀ f, LL N (f + k) al (Int32.ofNat 0) s = some (s', none))) := by
  obtain ⟨hi, e5, e6, e7, hkk, ho, he, hlt, hll⟩ := h.1.now
  have hlast : (if q = 5 then 93 else 41) < 100 := by split <;> decide
  have kn : cf_42 N X t = some (t, .inl (some (.int (Int32.ofNat (ck (TL b n)[i]))))) := by rw [c_kindNow, e5]
  have hck : ck (TL b n)[i] = (if q = 5 then 93 else 41) ↔ (TL b n)[i].1 = (if q = 5 then 93 else 41) := ck_sg (by split <;> decide)
  have hHW : HW 0 (W ++ [(q, a, 0, pl, nm, np)]) := Or.inr ⟨W, _, rfl, Or.inl (by have := hQ.1; show 3 ≤ q; omega)⟩
  have hne : al = 0 ∨ ¬ (W ++ [(q, a, 0, pl, nm, np)]) = [] := Or.inr (by simp)
  by_cases z : (TL b n)[i].1 = (if q = 5 then 93 else 41)
  · have k1 := hck.mpr z
    have hC : cf_194_5 N X (cf_S0 N X F) (Int32.ofNat (if q = 5 then 93 else 41)) (Int32.ofNat least) (Int32.ofNat most) t = cf_194_92 N X (cf_S0 N X F) (Int32.ofNat (if q = 5 then 93 else 41)) (Int32.ofNat least) (Int32.ofNat 0) t := by
      unfold cf_194_5 cf_194_15
      simp (disch := omega) only [ev_S, ev_C, ↓reduceIte, Nat.reduceEqDiff, Nat.reduceLeDiff, Nat.reduceAdd, Nat.reduceMul, Nat.reduceSub, reduceCtorEq, l32_0, l32_1, l32_2, l32_3, l32_4, l32_5, l32_6, l32_7, l32_8, l32_9, l32_10, l32_11, l32_12, l32_13, l32_14, l32_15, l32_16, l32_17, l32_18, l32_19, l32_20, l32_21, l32_22, l32_23, l32_24, l32_25, l32_26, l32_27, l32_28, l32_29, l32_33, l32_40, l32_41, l32_44, l32_45, l32_59, l32_61, l32_91, l32_93, l32_123, l32_125, kn, k1]
    rw [hC]
    rcases PE.en (N := N) (X := X) (rk := cf_S0 N X F) (q := q) (c := 0) (least := least) hN h hwn rfl hQ.1 rfl (by omega) ho1 ⟨fun y => (hQ.2.2 y).1, fun y => ⟨(hQ.2.1 y).1, (hQ.2.1 y).2.1, Nat.zero_le _⟩⟩ with ⟨t', s', y1, y2, y3, y4, y5, y6⟩ | ⟨t', s', y1, y2, y3, y4⟩
    · refine Or.inl ⟨t', s', 0, i + 1, [], vs, cl, 0, y1, by omega, by omega, by rw [List.append_nil]; exact y3, y4, y5, Nat.zero_le _, y6, fun s2 he2 => ⟨fun _ _ => y2.trans he2, fun y => absurd z (y hi)⟩⟩
    · exact Or.inr ⟨t', s', 0, y1, by omega, y3, y4, fun _ _ => y2, fun y => absurd z (y hi)⟩
  · have k1 : ¬ ck (TL b n)[i] = (if q = 5 then 93 else 41) := fun y => z (hck.mp y)
    have hC : cf_194_5 N X (cf_S0 N X F) (Int32.ofNat (if q = 5 then 93 else 41)) (Int32.ofNat least) (Int32.ofNat most) t = ko_call 5 (cf_S0 N X F 186 [.int (Int32.ofNat 0)] t) (fun g1 v1 => co_v v1 (cf_194_L8 N X (cf_S0 N X F) N 0 (Int32.ofNat (if q = 5 then 93 else 41)) (Int32.ofNat least) (Int32.ofNat most) (Int32.ofNat (0 + 1)) (Int32.ofNat 0) g1)) := by
      unfold cf_194_5 cf_194_15 cf_194_19 cf_194_24
      simp (disch := omega) only [ev_S, ev_C, ↓reduceIte, Nat.reduceEqDiff, Nat.reduceLeDiff, Nat.reduceAdd, Nat.reduceMul, Nat.reduceSub, reduceCtorEq, l32_0, l32_1, l32_2, l32_3, l32_4, l32_5, l32_6, l32_7, l32_8, l32_9, l32_10, l32_11, l32_12, l32_13, l32_14, l32_15, l32_16, l32_17, l32_18, l32_19, l32_20, l32_21, l32_22, l32_23, l32_24, l32_25, l32_26, l32_27, l32_28, l32_29, l32_33, l32_40, l32_41, l32_44, l32_45, l32_59, l32_61, l32_91, l32_93, l32_123, l32_125, kn, k1]
    rw [hC]
    rcases hSX 0 i op D code vs cl (W ++ [(q, a, 0, pl, nm, np)]) cu fs al t s (by decide) h hwn hHW (by rw [List.length_append]; exact hWl) hne hF hD1 with ⟨t4, s4, k4, i4, seg4, code4, vs4, cl4, Z4, ah4, x1, x2, x3, x4, x5, x6, x7, x8, x9, x10⟩ | ⟨t4, s4, k4, x1, x2, x3, x4, x5⟩
    · rw [x1]
      have w4 : rWn s4 := hwn.kp x10.2
      have hm1 : 0 + 1 ≤ most := by
        by_cases y : q = 7
        · rw [(hQ.2.1 y).2.2]
          have := (hQ.2.1 y).1
          unfold whi wnt
          repeat' split
          all_goals omega
        · rw [(hQ.2.2 y).2]
          omega
      rcases p_listL (al := al) hN hSX hQ ho1 hF hWl (TL b n).length i4 D (code ++ seg4) code4 vs4 cl4 Z4 ah4 t4 s4 0 0 N (by omega) x5 w4 x6 x7 (fun z hh => ⟨(x8 z hh).1, (x8 z hh).2.2⟩) x9 (by omega) (by omega) hm1 (by omega) hD1 with ⟨t', s5, c', i', seg, vs', cl', k, y1, y2, y3, y4, y5, y6, y7, y8, y9⟩ | ⟨t', s', k, y1, y2, y3, y4, y5⟩
      · refine Or.inl ⟨t', s5, c', i', seg4 ++ seg, vs', cl', k + k4, y1, by omega, by omega, by rw [← List.append_assoc]; exact PE.dn y4 (by omega), y5, y6.1, y7, x10.tr y8, fun s6 he2 => ⟨fun _ y => absurd y z, fun _ f => ?_⟩⟩
        rw [← Nat.add_assoc, x4]
        exact y9 s6 he2 f
      · refine Or.inr ⟨t', s', k + k4, y1, by omega, y4, x10.pre y5, fun _ y => absurd y z, fun _ f => ?_⟩
        rw [← Nat.add_assoc, x4]
        exact y3 f
    · exact Or.inr ⟨t4, s4, k4, by rw [x1]; rfl, by omega, x4, x5, fun _ y => absurd y z, fun _ f => x3 f⟩
/-! what starts does -/
variable {k : Tk}
theorem st_num (hN : 170000 ≤ N) (hw : rWd s) (h : rTk s k) (hk : k.1 = 2) : mf_286 N s = mf_286_18 N (Int32.ofNat k.2.2.2.1) s := by
  have g0 := r_wordHere hN hw h
  rw [if_neg (by omega)] at g0
  obtain ⟨x1, x2, x3⟩ := h
  have h5 : s.1 5 = Int32.ofNat 2 := by
    rcases x3 with y3 | y3 | y3 | y3 | y3
    · omega
    · omega
    · exact y3.2.1
    · omega
    · omega
  unfold mf_286 mf_286_0 mf_286_9
  simp (disch := omega) only [ev_S, ev_P, ↓reduceIte, Nat.reduceEqDiff, Nat.reduceLeDiff, Nat.reduceAdd, Nat.reduceMul, Nat.reduceSub, reduceCtorEq, l32_0, l32_1, l32_2, l32_3, l32_4, l32_5, l32_6, l32_7, l32_8, l32_9, l32_10, l32_11, l32_12, l32_13, l32_14, l32_15, l32_16, l32_17, l32_18, l32_19, l32_20, l32_21, l32_22, l32_23, l32_24, l32_25, l32_26, l32_27, l32_28, l32_29, l32_33, l32_40, l32_41, l32_44, l32_45, l32_59, l32_61, l32_91, l32_93, l32_123, l32_125, g0, x1, h5]
/-- a sign, or none -/
theorem st_sg (hN : 170000 ≤ N) (hw : rWd s) (h : rTk s k) (hk : ¬ k.1 = 2 ∧ ¬ k.1 = 3) : mf_286 N s = mf_286_37 N (Int32.ofNat k.2.2.2.1) (-Int32.ofNat 1) s ∧ (s.1 5 = Int32.ofNat 0 ∨ s.1 5 = Int32.ofNat 4 ∨ s.1 5 = Int32.ofNat 3) := by
  have g0 := r_wordHere hN hw h
  rw [if_neg hk.2] at g0
  obtain ⟨x1, x2, x3⟩ := h
  have h5 : s.1 5 = Int32.ofNat 0 ∨ s.1 5 = Int32.ofNat 4 ∨ s.1 5 = Int32.ofNat 3 := by
    rcases x3 with y3 | y3 | y3 | y3 | y3
    · exact Or.inl y3.2
    · exact Or.inr (Or.inl y3.2)
    · omega
    · omega
    · exact Or.inr (Or.inr y3.2.2.1)
  refine ⟨?_, h5⟩
  unfold mf_286 mf_286_0 mf_286_9
  rcases h5 with h5 | h5 | h5
  · simp (disch := omega) only [ev_S, ev_P, ↓reduceIte, Nat.reduceEqDiff, Nat.reduceLeDiff, Nat.reduceAdd, Nat.reduceMul, Nat.reduceSub, reduceCtorEq, l32_0, l32_1, l32_2, l32_3, l32_4, l32_5, l32_6, l32_7, l32_8, l32_9, l32_10, l32_11, l32_12, l32_13, l32_14, l32_15, l32_16, l32_17, l32_18, l32_19, l32_20, l32_21, l32_22, l32_23, l32_24, l32_25, l32_26, l32_27, l32_28, l32_29, l32_33, l32_40, l32_41, l32_44, l32_45, l32_59, l32_61, l32_91, l32_93, l32_123, l32_125, g0, x1, h5]
  · simp (disch := omega) only [ev_S, ev_P, ↓reduceIte, Nat.reduceEqDiff, Nat.reduceLeDiff, Nat.reduceAdd, Nat.reduceMul, Nat.reduceSub, reduceCtorEq, l32_0, l32_1, l32_2, l32_3, l32_4, l32_5, l32_6, l32_7, l32_8, l32_9, l32_10, l32_11, l32_12, l32_13, l32_14, l32_15, l32_16, l32_17, l32_18, l32_19, l32_20, l32_21, l32_22, l32_23, l32_24, l32_25, l32_26, l32_27, l32_28, l32_29, l32_33, l32_40, l32_41, l32_44, l32_45, l32_59, l32_61, l32_91, l32_93, l32_123, l32_125, g0, x1, h5]
  · simp (disch := omega) only [ev_S, ev_P, ↓reduceIte, Nat.reduceEqDiff, Nat.reduceLeDiff, Nat.reduceAdd, Nat.reduceMul, Nat.reduceSub, reduceCtorEq, l32_0, l32_1, l32_2, l32_3, l32_4, l32_5, l32_6, l32_7, l32_8, l32_9, l32_10, l32_11, l32_12, l32_13, l32_14, l32_15, l32_16, l32_17, l32_18, l32_19, l32_20, l32_21, l32_22, l32_23, l32_24, l32_25, l32_26, l32_27, l32_28, l32_29, l32_33, l32_40, l32_41, l32_44, l32_45, l32_59, l32_61, l32_91, l32_93, l32_123, l32_125, g0, x1, h5]
theorem st_ahead (hN : 170000 ≤ N) (hw : rWd s) (h : rTk s k) (hk : k.1 = 45 ∨ k.1 = 33) (hu : mf_283 N (Int32.ofNat 2) s = some (s, some (.int (Int32.ofNat 0)))) : mf_286 N s = mf_286_63 N (Int32.ofNat k.2.2.2.1) s := by
  have g1 := r_isSign (N := N) (c := 45) h (by decide) (by decide)
  have g2 := r_isSign (N := N) (c := 33) h (by decide) (by decide)
  rw [(st_sg hN hw h (by omega)).1]
  rcases hk with z | z
  · rw [if_pos z] at g1
    unfold mf_286_37 mf_286_43 mf_286_55 mf_286_60
    simp (disch := omega) only [ev_S, ev_P, ↓reduceIte, Nat.reduceEqDiff, Nat.reduceLeDiff, Nat.reduceAdd, Nat.reduceMul, Nat.reduceSub, reduceCtorEq, l32_0, l32_1, l32_2, l32_3, l32_4, l32_5, l32_6, l32_7, l32_8, l32_9, l32_10, l32_11, l32_12, l32_13, l32_14, l32_15, l32_16, l32_17, l32_18, l32_19, l32_20, l32_21, l32_22, l32_23, l32_24, l32_25, l32_26, l32_27, l32_28, l32_29, l32_33, l32_40, l32_41, l32_44, l32_45, l32_59, l32_61, l32_91, l32_93, l32_123, l32_125, g1, hu]
  · rw [if_neg (by omega)] at g1
    rw [if_pos z] at g2
    unfold mf_286_37 mf_286_43 mf_286_46 mf_286_52 mf_286_55 mf_286_60
    simp (disch := omega) only [ev_S, ev_P, ↓reduceIte, Nat.reduceEqDiff, Nat.reduceLeDiff, Nat.reduceAdd, Nat.reduceMul, Nat.reduceSub, reduceCtorEq, l32_0, l32_1, l32_2, l32_3, l32_4, l32_5, l32_6, l32_7, l32_8, l32_9, l32_10, l32_11, l32_12, l32_13, l32_14, l32_15, l32_16, l32_17, l32_18, l32_19, l32_20, l32_21, l32_22, l32_23, l32_24, l32_25, l32_26, l32_27, l32_28, l32_29, l32_33, l32_40, l32_41, l32_44, l32_45, l32_59, l32_61, l32_91, l32_93, l32_123, l32_125, g1, g2, hu]
theorem st_80 (hN : 170000 ≤ N) (hw : rWd s) (h : rTk s k) (hk : ¬ k.1 = 2 ∧ ¬ k.1 = 3) (hu : k.1 = 45 ∨ k.1 = 33 → mf_283 N (Int32.ofNat 2) s = some (s, some (.int (Int32.ofNat 1)))) : mf_286 N s = mf_286_80 N (Int32.ofNat k.2.2.2.1) (-Int32.ofNat 1) s := by
  have g1 := r_isSign (N := N) (c := 45) h (by decide) (by decide)
  have g2 := r_isSign (N := N) (c := 33) h (by decide) (by decide)
  rw [(st_sg hN hw h hk).1]
  by_cases z : k.1 = 45
  · rw [if_pos z] at g1
    have hu := hu (Or.inl z)
    unfold mf_286_37 mf_286_43 mf_286_55 mf_286_60
    simp (disch := omega) only [ev_S, ev_P, ↓reduceIte, Nat.reduceEqDiff, Nat.reduceLeDiff, Nat.reduceAdd, Nat.reduceMul, Nat.reduceSub, reduceCtorEq, l32_0, l32_1, l32_2, l32_3, l32_4, l32_5, l32_6, l32_7, l32_8, l32_9, l32_10, l32_11, l32_12, l32_13, l32_14, l32_15, l32_16, l32_17, l32_18, l32_19, l32_20, l32_21, l32_22, l32_23, l32_24, l32_25, l32_26, l32_27, l32_28, l32_29, l32_33, l32_40, l32_41, l32_44, l32_45, l32_59, l32_61, l32_91, l32_93, l32_123, l32_125, g1, hu]
  · rw [if_neg z] at g1
    by_cases z2 : k.1 = 33
    · rw [if_pos z2] at g2
      have hu := hu (Or.inr z2)
      unfold mf_286_37 mf_286_43 mf_286_46 mf_286_52 mf_286_55 mf_286_60
      simp (disch := omega) only [ev_S, ev_P, ↓reduceIte, Nat.reduceEqDiff, Nat.reduceLeDiff, Nat.reduceAdd, Nat.reduceMul, Nat.reduceSub, reduceCtorEq, l32_0, l32_1, l32_2, l32_3, l32_4, l32_5, l32_6, l32_7, l32_8, l32_9, l32_10, l32_11, l32_12, l32_13, l32_14, l32_15, l32_16, l32_17, l32_18, l32_19, l32_20, l32_21, l32_22, l32_23, l32_24, l32_25, l32_26, l32_27, l32_28, l32_29, l32_33, l32_40, l32_41, l32_44, l32_45, l32_59, l32_61, l32_91, l32_93, l32_123, l32_125, g1, g2, hu]
    · rw [if_neg z2] at g2
      unfold mf_286_37 mf_286_43 mf_286_46 mf_286_52
      simp (disch := omega) only [ev_S, ev_P, ↓reduceIte, Nat.reduceEqDiff, Nat.reduceLeDiff, Nat.reduceAdd, Nat.reduceMul, Nat.reduceSub, reduceCtorEq, l32_0, l32_1, l32_2, l32_3, l32_4, l32_5, l32_6, l32_7, l32_8, l32_9, l32_10, l32_11, l32_12, l32_13, l32_14, l32_15, l32_16, l32_17, l32_18, l32_19, l32_20, l32_21, l32_22, l32_23, l32_24, l32_25, l32_26, l32_27, l32_28, l32_29, l32_33, l32_40, l32_41, l32_44, l32_45, l32_59, l32_61, l32_91, l32_93, l32_123, l32_125, g1, g2]
theorem st_group (hN : 170000 ≤ N) (hw : rWd s) (h : rTk s k) (hk : k.1 = 40) : mf_286 N s = mf_286_89 N (Int32.ofNat k.2.2.2.1) s := by
  have g1 := r_isSign (N := N) (c := 40) h (by decide) (by decide)
  rw [if_pos hk] at g1
  rw [st_80 hN hw h (by omega) (by omega)]
  unfold mf_286_80 mf_286_86
  simp (disch := omega) only [ev_S, ev_P, ↓reduceIte, Nat.reduceEqDiff, Nat.reduceLeDiff, Nat.reduceAdd, Nat.reduceMul, Nat.reduceSub, reduceCtorEq, l32_0, l32_1, l32_2, l32_3, l32_4, l32_5, l32_6, l32_7, l32_8, l32_9, l32_10, l32_11, l32_12, l32_13, l32_14, l32_15, l32_16, l32_17, l32_18, l32_19, l32_20, l32_21, l32_22, l32_23, l32_24, l32_25, l32_26, l32_27, l32_28, l32_29, l32_33, l32_40, l32_41, l32_44, l32_45, l32_59, l32_61, l32_91, l32_93, l32_123, l32_125, g1]
theorem st_listed (hN : 170000 ≤ N) (hw : rWd s) (h : rTk s k) (hk : k.1 = 91) : mf_286 N s = mf_286_113 N (Int32.ofNat k.2.2.2.1) s := by
  have g1 := r_isSign (N := N) (c := 40) h (by decide) (by decide)
  have g2 := r_isSign (N := N) (c := 91) h (by decide) (by decide)
  rw [if_neg (by omega)] at g1
  rw [if_pos hk] at g2
  rw [st_80 hN hw h (by omega) (by omega)]
  unfold mf_286_80 mf_286_86 mf_286_104 mf_286_110
  simp (disch := omega) only [ev_S, ev_P, ↓reduceIte, Nat.reduceEqDiff, Nat.reduceLeDiff, Nat.reduceAdd, Nat.reduceMul, Nat.reduceSub, reduceCtorEq, l32_0, l32_1, l32_2, l32_3, l32_4, l32_5, l32_6, l32_7, l32_8, l32_9, l32_10, l32_11, l32_12, l32_13, l32_14, l32_15, l32_16, l32_17, l32_18, l32_19, l32_20, l32_21, l32_22, l32_23, l32_24, l32_25, l32_26, l32_27, l32_28, l32_29, l32_33, l32_40, l32_41, l32_44, l32_45, l32_59, l32_61, l32_91, l32_93, l32_123, l32_125, g1, g2]
theorem st_other (hN : 170000 ≤ N) (hw : rWd s) (h : rTk s k) (hk : ¬ k.1 = 2 ∧ ¬ k.1 = 3 ∧ ¬ k.1 = 40 ∧ ¬ k.1 = 91) (hu : k.1 = 45 ∨ k.1 = 33 → mf_283 N (Int32.ofNat 2) s = some (s, some (.int (Int32.ofNat 1)))) : mf_286 N s = mf_286_215 N s := by
  have g1 := r_isSign (N := N) (c := 40) h (by decide) (by decide)
  have g2 := r_isSign (N := N) (c := 91) h (by decide) (by decide)
  rw [if_neg hk.2.2.1] at g1
  rw [if_neg hk.2.2.2] at g2
  rw [st_80 hN hw h ⟨hk.1, hk.2.1⟩ hu]
  obtain ⟨-, h5⟩ := st_sg hN hw h ⟨hk.1, hk.2.1⟩
  unfold mf_286_80 mf_286_86 mf_286_104 mf_286_110 mf_286_155 mf_286_187
  rcases h5 with h5 | h5 | h5
  · simp (disch := omega) only [ev_S, ev_P, ↓reduceIte, Nat.reduceEqDiff, Nat.reduceLeDiff, Nat.reduceAdd, Nat.reduceMul, Nat.reduceSub, reduceCtorEq, l32_0, l32_1, l32_2, l32_3, l32_4, l32_5, l32_6, l32_7, l32_8, l32_9, l32_10, l32_11, l32_12, l32_13, l32_14, l32_15, l32_16, l32_17, l32_18, l32_19, l32_20, l32_21, l32_22, l32_23, l32_24, l32_25, l32_26, l32_27, l32_28, l32_29, l32_33, l32_40, l32_41, l32_44, l32_45, l32_59, l32_61, l32_91, l32_93, l32_123, l32_125, g1, g2, h5]
  · simp (disch := omega) only [ev_S, ev_P, ↓reduceIte, Nat.reduceEqDiff, Nat.reduceLeDiff, Nat.reduceAdd, Nat.reduceMul, Nat.reduceSub, reduceCtorEq, l32_0, l32_1, l32_2, l32_3, l32_4, l32_5, l32_6, l32_7, l32_8, l32_9, l32_10, l32_11, l32_12, l32_13, l32_14, l32_15, l32_16, l32_17, l32_18, l32_19, l32_20, l32_21, l32_22, l32_23, l32_24, l32_25, l32_26, l32_27, l32_28, l32_29, l32_33, l32_40, l32_41, l32_44, l32_45, l32_59, l32_61, l32_91, l32_93, l32_123, l32_125, g1, g2, h5]
  · simp (disch := omega) only [ev_S, ev_P, ↓reduceIte, Nat.reduceEqDiff, Nat.reduceLeDiff, Nat.reduceAdd, Nat.reduceMul, Nat.reduceSub, reduceCtorEq, l32_0, l32_1, l32_2, l32_3, l32_4, l32_5, l32_6, l32_7, l32_8, l32_9, l32_10, l32_11, l32_12, l32_13, l32_14, l32_15, l32_16, l32_17, l32_18, l32_19, l32_20, l32_21, l32_22, l32_23, l32_24, l32_25, l32_26, l32_27, l32_28, l32_29, l32_33, l32_40, l32_41, l32_44, l32_45, l32_59, l32_61, l32_91, l32_93, l32_123, l32_125, g1, g2, h5]
end LIT
