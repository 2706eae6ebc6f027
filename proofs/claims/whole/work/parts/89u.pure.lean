/-! ===== PURE: both sides at the end of a list (2) ===== -/
section LEO
variable {N : Nat} {X : Nat → Option zz_C} {t t' : cS} {s s' s1 s2 : mS} {b : Nat → Nat} {n p e i op D D' : Nat} {code code1 code2 fl : List Ins} {vs : List (List Nat)} {cl : List Cn} {W W' : List Wt} {cu cu' : List Nat} {fs : Nat × Nat × Nat} {al : Int32} {rk : Nat → List Value → cS → kO}
theorem FX.post (h : FX p e t t' s s1) (f : fQ e s1 s2) (o : oB s2) : FX p e t t' s s2 := ⟨h.1, h.2.1.tr f, o, h.2.2.2⟩
theorem pF.post (h : pF t s1) (e9 : s2.1 9 = s1.1 9) (e10 : s2.1 10 = s1.1 10) : pF t s2 := by
  obtain ⟨x, y, h1, h2, h3, h4, h5, h6, h7⟩ := h
  exact ⟨x, y, h1, h2, h3, h4, h5, e9.trans h6, e10.trans h7⟩
theorem r_signF {x : Nat} {c : Int32} (h9 : s.1 9 = Int32.ofNat x) (hx : 1 ≤ x ∧ x ≤ 6) : mf_267 N c s = some (s, none) := by
  repeat ((first | unfold mf_267 | unfold mf_267_0 | unfold mf_267_7 | unfold mf_267_8 | unfold mf_267_13 | unfold mf_267_16 | unfold mf_267_22 | unfold mf_267_28 | unfold mf_267_34 | unfold mf_267_44 | unfold mf_267_48 | unfold mf_267_51 | unfold mf_267_55); try simp (disch := omega) only [ev_S, ev_P, ↓reduceIte, Nat.reduceEqDiff, Nat.reduceLeDiff, Nat.reduceAdd, Nat.reduceMul, Nat.reduceSub, reduceCtorEq, l32_0, l32_1, l32_2, l32_3, l32_4, l32_9, l32_11, l32_41, l32_93, l32_125, h9])
theorem r_most0 {k : Nat} (h : rWn s) (hk : k < 28) : mf_289 N (Int32.ofNat k) s = some (s, some (.int (Int32.ofNat (whi (k + 11))))) := by
  have e1 := h k (by omega)
  by_cases c : k = 5
  · subst c
    repeat ((first | unfold mf_289 | unfold mf_289_0 | unfold mf_289_5 | unfold mf_289_10 | unfold mf_289_16); try simp (disch := omega) only [ev_S, ev_P, ↓reduceIte, Nat.reduceEqDiff, Nat.reduceLeDiff, Nat.reduceAdd, Nat.reduceMul, Nat.reduceSub, reduceCtorEq, l32_0, l32_1, l32_2, l32_3, l32_4, l32_5, l32_6, l32_30])
    rfl
  · have e2 : whi (k + 11) = wnt k := by
      unfold whi
      rw [if_neg (by omega), if_neg (by omega), if_neg (by omega), Nat.add_sub_cancel]
    rw [e2]
    repeat ((first | unfold mf_289 | unfold mf_289_0 | unfold mf_289_5 | unfold mf_289_10 | unfold mf_289_16); try simp (disch := omega) only [ev_S, ev_P, ↓reduceIte, Nat.reduceEqDiff, Nat.reduceLeDiff, Nat.reduceAdd, Nat.reduceMul, Nat.reduceSub, reduceCtorEq, l32_0, l32_1, l32_2, l32_3, l32_4, l32_5, l32_6, l32_30, e1, c])
theorem PE.pop {w : Wt} (h : PE b n p e i op D code code1 vs cl (W ++ [w]) cu fs t s) : PE b n p e i op D code code1 vs cl W cu fs t (mI s 44 (Int32.ofNat W.length)) ∧ FR p e t t s (mI s 44 (Int32.ofNat W.length)) ∧ slt (mI s 44 (Int32.ofNat W.length)) W.length w := by
  have h5 := h.2.2.2.2.1
  obtain ⟨c1, c2⟩ := h.wt (s' := mI s 44 (Int32.ofNat W.length)) h5.pop ⟨fun q r => if_neg r, fun _ _ => rfl, fun _ _ => rfl, fun _ _ => rfl⟩
  obtain ⟨q0, q1, q2, q3, q4, q5, q6, q7⟩ := w_last h5
  exact ⟨c1, c2, q2, q3, q4, q5, q7⟩
theorem whi_lo {w : Nat} (h : ¬ w = 16) : wlo w = whi w := if_neg h
/-- the end of a list -/
theorem PE.en {q c least : Nat} {w : Wt} (hN : 170000 ≤ N) (h : PE b n p e i op D code code vs cl (W ++ [w]) cu fs t s) (hwn : rWn s) (hq : w.1 = q) (hq3 : q = 5 ∨ q = 6 ∨ q = 7) (hc : w.2.2.1 = c) (hc2 : c < 2000) (ho1 : 1 ≤ op) (hl : (¬ q = 7 → least = 0) ∧ (q = 7 → w.2.1 < 28 ∧ least = wlo (w.2.1 + 11) ∧ c ≤ whi (w.2.1 + 11))) : (∃ t' s', cf_194_92 N X rk (Int32.ofNat (if q = 5 then 93 else 41)) (Int32.ofNat least) (Int32.ofNat c) t = some (t', .inl (some (.int (Int32.ofNat c)))) ∧ mf_290 N s = E2 N q W.length (Int32.ofNat c) s' ∧ PE b n p e (i + 1) (op - 1) (D + 1) code code vs cl W cu fs t' s' ∧ slt s' W.length w ∧ least ≤ c ∧ FR p e t t' s s') ∨ (∃ t' s', cf_194_92 N X rk (Int32.ofNat (if q = 5 then 93 else 41)) (Int32.ofNat least) (Int32.ofNat c) t = some (t', .inr ()) ∧ mf_290 N s = some (s', some (.int 1)) ∧ pF t' s' ∧ FX p e t t' s s') := by
  have h5 := h.2.2.2.2.1
  obtain ⟨q0, q1, q2, q3, q4, q5, q6, q7⟩ := w_last h5
  obtain ⟨p1, p2, p3⟩ := h.pop
  obtain ⟨hi, e5, e6, e7, hkk, ho, he, hlt, hll⟩ := h.1.now
  have h9 : s.1 9 = Int32.ofNat 0 := h.1.2.2.2.2.2.2.2.2.2
  have hlw : least ≤ 6 := by
    by_cases z : q = 7
    · rw [(hl.2 z).2.1]
      unfold wlo whi wnt
      repeat' split
      all_goals omega
    · rw [hl.1 z]
      omega
  rw [hc] at q4
  rw [hq] at q2
  generalize hS : mI s 44 (Int32.ofNat W.length) = sp at p1 p2 p3
  have sp9 : sp.1 9 = Int32.ofNat 0 := by rw [← hS]; exact h9
  have hck : ck (TL b n)[i] = (if q = 5 then 93 else 41) ↔ (TL b n)[i].1 = (if q = 5 then 93 else 41) := ck_sg (by split <;> decide)
  -- the class's own fault
  by_cases hd : (TL b n)[i].1 = (if q = 5 then 93 else 41) ∧ c < least
  · obtain ⟨d1, d2⟩ := hd
    have z7 : q = 7 := by
      refine Classical.byContradiction fun z => ?_
      rw [hl.1 z] at d2
      omega
    subst z7
    obtain ⟨l1, l2, l3⟩ := hl.2 rfl
    have d1 : (TL b n)[i].1 = 41 := d1
    have e5' : kI t 3 5 = Int32.ofNat 41 := by
      rw [e5]
      exact congrArg Int32.ofNat (hck.mpr d1)
    have n5 : ¬ w.2.1 = 5 := by
      intro z
      rw [z] at l2
      have : wlo (5 + 11) = 0 := rfl
      omega
    rw [whi_lo (by omega)] at l2
    obtain ⟨t', a1, hi', a2, a3, a4, a5⟩ := p1.ft (N := N) (X := X) (x := 5) (by omega) (fun hi => by omega)
    have ff := c_fine (N := N) (X := X) (t := t) (x := Int32.ofNat 5)
    refine Or.inr ⟨t', _, ?_, ?_, a4, p2.pre a5⟩
    · show cf_194_92 N X rk (Int32.ofNat 41) (Int32.ofNat least) (Int32.ofNat c) t = _
      unfold cf_194_92 cf_194_100 cf_194_104 cf_194_114 cf_194_115
      have kn : cf_42 N X t = some (t, .inl (some (.int (Int32.ofNat 41)))) := by rw [c_kindNow, e5']
      have a1' : cf_202 N X (Int32.ofNat 0) (Int32.ofNat 5) t = some (t', .inr ()) := a1
      simp (disch := omega) only [ev_S, ev_C, ↓reduceIte, Nat.reduceEqDiff, Nat.reduceLeDiff, Nat.reduceAdd, Nat.reduceMul, Nat.reduceSub, reduceCtorEq, l32_0, l32_1, l32_2, l32_3, l32_4, l32_5, l32_6, l32_7, l32_8, l32_9, l32_10, l32_11, l32_12, l32_13, l32_14, l32_15, l32_16, l32_17, l32_18, l32_19, l32_20, l32_21, l32_22, l32_23, l32_24, l32_25, l32_26, l32_27, l32_28, l32_29, l32_33, l32_40, l32_41, l32_44, l32_45, l32_59, l32_61, l32_91, l32_93, l32_123, l32_125, kn, a1', d2]
      rfl
    · have g1 := r_isSign (N := N) (s := sp) (c := 41) p1.1.2.2.2.2.2.2.1.2 (by decide) (by decide)
      rw [if_pos d1] at g1
      have w0 : rWn sp := hwn.kp p2.2
      have g2 := r_most0 (N := N) (s := sp) w0 l1
      have b1 := p3.2.1
      have b0 := p3.1
      rw [hq] at b0
      have g3 := r_signF (N := N) (x := 5) (c := Int32.ofNat 41) (s := flt sp (Int32.ofNat 5) (Int32.ofNat (TL b n)[i].2.2.2.1)) rfl (by omega)
      have nm : ¬ c = whi (w.2.1 + 11) := by omega
      have wl : whi (w.2.1 + 11) < 10 := by
        unfold whi wnt
        repeat' split
        all_goals omega
      have hW8 : W.length < 80 := by omega
      unfold mf_290 mf_290_0
      rw [q0]
      simp (disch := omega) only [ev_S, ev_P, ↓reduceIte, Nat.reduceEqDiff, Nat.reduceLeDiff, Nat.reduceAdd, Nat.reduceMul, Nat.reduceSub, reduceCtorEq, l32_0, l32_1, l32_2, l32_3, l32_4, l32_5, l32_6, l32_7, l32_8, l32_9, l32_10, l32_11, l32_12, l32_13, l32_14, l32_15, l32_16, l32_17, l32_18, l32_19, l32_20, l32_21, l32_22, l32_23, l32_24, l32_25, l32_26, l32_27, l32_28, l32_29, l32_33, l32_40, l32_41, l32_44, l32_45, l32_59, l32_61, l32_91, l32_93, l32_123, l32_125, q2, q4, hS]
      unfold mf_290_55 mf_290_66 mf_290_72 mf_290_75 mf_290_85 mf_290_96 mf_290_99 mf_290_108
      simp (disch := omega) only [ev_S, ev_P, ↓reduceIte, Nat.reduceEqDiff, Nat.reduceLeDiff, Nat.reduceAdd, Nat.reduceMul, Nat.reduceSub, reduceCtorEq, l32_0, l32_1, l32_2, l32_3, l32_4, l32_5, l32_6, l32_7, l32_8, l32_9, l32_10, l32_11, l32_12, l32_13, l32_14, l32_15, l32_16, l32_17, l32_18, l32_19, l32_20, l32_21, l32_22, l32_23, l32_24, l32_25, l32_26, l32_27, l32_28, l32_29, l32_33, l32_40, l32_41, l32_44, l32_45, l32_59, l32_61, l32_91, l32_93, l32_123, l32_125, b0, b1, g1, g2, n5, nm, a2, a3, g3]
      unfold mf_290_114 mf_290_121
      rfl
  · have hcl : cf_194_92 N X rk (Int32.ofNat (if q = 5 then 93 else 41)) (Int32.ofNat least) (Int32.ofNat c) t = cf_194_119 N X rk (Int32.ofNat (if q = 5 then 93 else 41)) (Int32.ofNat c) t := by
      have ff : cf_202 N X (Int32.ofNat 1) (Int32.ofNat 5) t = some (t, .inl none) := c_fine
      have kn : cf_42 N X t = some (t, .inl (some (.int (Int32.ofNat (ck (TL b n)[i]))))) := by rw [c_kindNow, e5]
      generalize hL : (if q = 5 then 93 else 41) = last at hd hck ⊢
      have hL2 : last < 100 := by rw [← hL]; split <;> decide
      by_cases z : (TL b n)[i].1 = last
      · have z1 := hck.mpr z
        have z2 : least ≤ c := by
          refine Classical.byContradiction fun y => hd ⟨z, by omega⟩
        unfold cf_194_92 cf_194_100 cf_194_104 cf_194_110 cf_194_115
        simp (disch := omega) only [ev_S, ev_C, ↓reduceIte, Nat.reduceEqDiff, Nat.reduceLeDiff, Nat.reduceAdd, Nat.reduceMul, Nat.reduceSub, reduceCtorEq, l32_0, l32_1, l32_2, l32_3, l32_4, l32_5, l32_6, l32_7, l32_8, l32_9, l32_10, l32_11, l32_12, l32_13, l32_14, l32_15, l32_16, l32_17, l32_18, l32_19, l32_20, l32_21, l32_22, l32_23, l32_24, l32_25, l32_26, l32_27, l32_28, l32_29, l32_33, l32_40, l32_41, l32_44, l32_45, l32_59, l32_61, l32_91, l32_93, l32_123, l32_125, kn, z1, ff]
      · have z1 : ¬ ck (TL b n)[i] = last := fun y => z (hck.mp y)
        unfold cf_194_92 cf_194_100 cf_194_110 cf_194_115
        simp (disch := omega) only [ev_S, ev_C, ↓reduceIte, Nat.reduceEqDiff, Nat.reduceLeDiff, Nat.reduceAdd, Nat.reduceMul, Nat.reduceSub, reduceCtorEq, l32_0, l32_1, l32_2, l32_3, l32_4, l32_5, l32_6, l32_7, l32_8, l32_9, l32_10, l32_11, l32_12, l32_13, l32_14, l32_15, l32_16, l32_17, l32_18, l32_19, l32_20, l32_21, l32_22, l32_23, l32_24, l32_25, l32_26, l32_27, l32_28, l32_29, l32_33, l32_40, l32_41, l32_44, l32_45, l32_59, l32_61, l32_91, l32_93, l32_123, l32_125, kn, z1, ff]
    rw [hcl]
    have hcs : cf_194_119 N X rk (Int32.ofNat (if q = 5 then 93 else 41)) (Int32.ofNat c) t = ko_call 5 (cf_201 N X (Int32.ofNat (if q = 5 then 93 else 41)) t) (fun g1 v1 => co_v v1 (some (g1, .inl (some (.int (Int32.ofNat c)))))) := rfl
    rw [hcs]
    -- the reference comes to the bracket too
    have hrs : mf_290 N s = mo_bv (mf_267 N (Int32.ofNat (if q = 5 then 93 else 41)) sp) (fun s1 => E2 N q W.length (Int32.ofNat c) s1) := by
      have hW8 : W.length < 80 := by omega
      rcases hq3 with rfl | rfl | rfl
      · unfold mf_290 mf_290_0
        rw [q0]
        simp (disch := omega) only [ev_S, ev_P, ↓reduceIte, Nat.reduceEqDiff, Nat.reduceLeDiff, Nat.reduceAdd, Nat.reduceMul, Nat.reduceSub, reduceCtorEq, l32_0, l32_1, l32_2, l32_3, l32_4, l32_5, l32_6, l32_7, l32_8, l32_9, l32_10, l32_11, l32_12, l32_13, l32_14, l32_15, l32_16, l32_17, l32_18, l32_19, l32_20, l32_21, l32_22, l32_23, l32_24, l32_25, l32_26, l32_27, l32_28, l32_29, l32_33, l32_40, l32_41, l32_44, l32_45, l32_59, l32_61, l32_91, l32_93, l32_123, l32_125, q2, q4, hS]
        rfl
      · have b0 := p3.1
        rw [hq] at b0
        unfold mf_290 mf_290_0
        rw [q0]
        simp (disch := omega) only [ev_S, ev_P, ↓reduceIte, Nat.reduceEqDiff, Nat.reduceLeDiff, Nat.reduceAdd, Nat.reduceMul, Nat.reduceSub, reduceCtorEq, l32_0, l32_1, l32_2, l32_3, l32_4, l32_5, l32_6, l32_7, l32_8, l32_9, l32_10, l32_11, l32_12, l32_13, l32_14, l32_15, l32_16, l32_17, l32_18, l32_19, l32_20, l32_21, l32_22, l32_23, l32_24, l32_25, l32_26, l32_27, l32_28, l32_29, l32_33, l32_40, l32_41, l32_44, l32_45, l32_59, l32_61, l32_91, l32_93, l32_123, l32_125, q2, q4, hS]
        unfold mf_290_55
        simp (disch := omega) only [ev_S, ev_P, ↓reduceIte, Nat.reduceEqDiff, Nat.reduceLeDiff, Nat.reduceAdd, Nat.reduceMul, Nat.reduceSub, reduceCtorEq, l32_0, l32_1, l32_2, l32_3, l32_4, l32_5, l32_6, l32_7, l32_8, l32_9, l32_10, l32_11, l32_12, l32_13, l32_14, l32_15, l32_16, l32_17, l32_18, l32_19, l32_20, l32_21, l32_22, l32_23, l32_24, l32_25, l32_26, l32_27, l32_28, l32_29, l32_33, l32_40, l32_41, l32_44, l32_45, l32_59, l32_61, l32_91, l32_93, l32_123, l32_125, b0]
        rfl
      · have b0 := p3.1
        rw [hq] at b0
        have b1 := p3.2.1
        obtain ⟨l1, l2, l3⟩ := hl.2 rfl
        have g1 := r_isSign (N := N) (s := sp) (c := 41) p1.1.2.2.2.2.2.2.1.2 (by decide) (by decide)
        unfold mf_290 mf_290_0
        rw [q0]
        simp (disch := omega) only [ev_S, ev_P, ↓reduceIte, Nat.reduceEqDiff, Nat.reduceLeDiff, Nat.reduceAdd, Nat.reduceMul, Nat.reduceSub, reduceCtorEq, l32_0, l32_1, l32_2, l32_3, l32_4, l32_5, l32_6, l32_7, l32_8, l32_9, l32_10, l32_11, l32_12, l32_13, l32_14, l32_15, l32_16, l32_17, l32_18, l32_19, l32_20, l32_21, l32_22, l32_23, l32_24, l32_25, l32_26, l32_27, l32_28, l32_29, l32_33, l32_40, l32_41, l32_44, l32_45, l32_59, l32_61, l32_91, l32_93, l32_123, l32_125, q2, q4, hS]
        unfold mf_290_55 mf_290_66 mf_290_72
        by_cases z : (TL b n)[i].1 = 41
        · rw [if_pos z] at g1
          by_cases n5 : w.2.1 = 5
          · rw [n5] at b1
            unfold mf_290_75
            simp (disch := omega) only [ev_S, ev_P, ↓reduceIte, Nat.reduceEqDiff, Nat.reduceLeDiff, Nat.reduceAdd, Nat.reduceMul, Nat.reduceSub, reduceCtorEq, l32_0, l32_1, l32_2, l32_3, l32_4, l32_5, l32_6, l32_7, l32_8, l32_9, l32_10, l32_11, l32_12, l32_13, l32_14, l32_15, l32_16, l32_17, l32_18, l32_19, l32_20, l32_21, l32_22, l32_23, l32_24, l32_25, l32_26, l32_27, l32_28, l32_29, l32_33, l32_40, l32_41, l32_44, l32_45, l32_59, l32_61, l32_91, l32_93, l32_123, l32_125, b0, b1, g1]
            rfl
          · have z2 : ¬ c < least := fun y => hd ⟨z, y⟩
            rw [whi_lo (by omega)] at l2
            have nm : whi (w.2.1 + 11) = c := by omega
            have w0 : rWn sp := hwn.kp p2.2
            have g2 := r_most0 (N := N) (s := sp) w0 l1
            rw [nm] at g2
            unfold mf_290_75 mf_290_85 mf_290_96
            simp (disch := omega) only [ev_S, ev_P, ↓reduceIte, Nat.reduceEqDiff, Nat.reduceLeDiff, Nat.reduceAdd, Nat.reduceMul, Nat.reduceSub, reduceCtorEq, l32_0, l32_1, l32_2, l32_3, l32_4, l32_5, l32_6, l32_7, l32_8, l32_9, l32_10, l32_11, l32_12, l32_13, l32_14, l32_15, l32_16, l32_17, l32_18, l32_19, l32_20, l32_21, l32_22, l32_23, l32_24, l32_25, l32_26, l32_27, l32_28, l32_29, l32_33, l32_40, l32_41, l32_44, l32_45, l32_59, l32_61, l32_91, l32_93, l32_123, l32_125, b0, b1, g1, n5, g2]
            rfl
        · rw [if_neg z] at g1
          simp (disch := omega) only [ev_S, ev_P, ↓reduceIte, Nat.reduceEqDiff, Nat.reduceLeDiff, Nat.reduceAdd, Nat.reduceMul, Nat.reduceSub, reduceCtorEq, l32_0, l32_1, l32_2, l32_3, l32_4, l32_5, l32_6, l32_7, l32_8, l32_9, l32_10, l32_11, l32_12, l32_13, l32_14, l32_15, l32_16, l32_17, l32_18, l32_19, l32_20, l32_21, l32_22, l32_23, l32_24, l32_25, l32_26, l32_27, l32_28, l32_29, l32_33, l32_40, l32_41, l32_44, l32_45, l32_59, l32_61, l32_91, l32_93, l32_123, l32_125, b0, g1]
          rfl
    rw [hrs]
    have hcc : (if q = 5 then 93 else 41) = 41 ∨ (if q = 5 then 93 else 41) = 93 ∨ (if q = 5 then 93 else 41) = 125 ∨ (if q = 5 then 93 else 41) = 59 ∨ (if q = 5 then 93 else 41) = 44 ∨ (if q = 5 then 93 else 41) = 61 := by
      by_cases z : q = 5
      · rw [if_pos z]; omega
      · rw [if_neg z]; omega
    rcases p1.sgn (N := N) (X := X) hN hcc (fun _ => ho1) with ⟨t', s', a1, a2, ⟨hi', a3⟩, a4, a5, a6⟩ | ⟨t', s', a1, a2, a3, a4, a5⟩
    · refine Or.inl ⟨t', s', by rw [a1]; rfl, by rw [a2]; rfl, ?_, ?_, ?_, p2.tr a5⟩
      · rw [if_pos (by split <;> omega)] at a4
        exact a4
      · exact p3.kp a6
      · refine Classical.byContradiction fun y => hd ⟨a3, by omega⟩
    · have hx := a3
      obtain ⟨x, y, x1, x2, x3, x4, x5, x6, x7⟩ := hx
      have hcr := p1.2.2.1.keep (a5.1 12 (by omega)) (a5.1 28 (by omega)) (fun q _ => a5.2.2.1 q (fun z => z))
      have hrl := p1.rle
      have hW8 : W.length < 80 := by omega
      have b4 := (p3.kp a5).2.2.2.1
      by_cases z5 : q = 5
      · subst z5
        obtain ⟨s2, c1, c2, c3⟩ := r_order (N := N) (x1 := Int32.ofNat 6) (x2 := Int32.ofNat c) (x3 := Int32.ofNat 0) (x4 := Int32.ofNat w.2.2.2.1) hcr (by rw [RA_len]; omega)
        refine Or.inr ⟨t', s2, by rw [a1]; rfl, ?_, a3.post (c3.1 9 (by decide)) (c3.1 10 (by decide)), p2.pre (a4.post (fO.Q c3) (c2.oB (by rw [List.length_append, RA_len, List.length_singleton]; omega)))⟩
        rw [a2]
        show mf_290_38 N (Int32.ofNat W.length) (Int32.ofNat c) s' = _
        unfold mf_290_38 mf_290_52
        simp (disch := omega) only [ev_S, ev_P, ↓reduceIte, Nat.reduceEqDiff, Nat.reduceLeDiff, Nat.reduceAdd, Nat.reduceMul, Nat.reduceSub, reduceCtorEq, l32_0, l32_1, l32_2, l32_3, l32_4, l32_5, l32_6, l32_7, l32_8, l32_9, l32_10, l32_11, l32_12, l32_13, l32_14, l32_15, l32_16, l32_17, l32_18, l32_19, l32_20, l32_21, l32_22, l32_23, l32_24, l32_25, l32_26, l32_27, l32_28, l32_29, l32_33, l32_40, l32_41, l32_44, l32_45, l32_59, l32_61, l32_91, l32_93, l32_123, l32_125, b4, c1]
      · refine Or.inr ⟨t', s', by rw [a1]; rfl, ?_, a3, p2.pre a4⟩
        rw [a2]
        show E2 N q W.length (Int32.ofNat c) s' = _
        unfold E2
        rw [if_neg z5]
        unfold mf_290_114 mf_290_121
        simp (disch := omega) only [ev_S, ev_P, ↓reduceIte, Nat.reduceEqDiff, Nat.reduceLeDiff, Nat.reduceAdd, Nat.reduceMul, Nat.reduceSub, reduceCtorEq, l32_0, l32_1, l32_2, l32_3, l32_4, l32_5, l32_6, l32_7, l32_8, l32_9, l32_10, l32_11, l32_12, l32_13, l32_14, l32_15, l32_16, l32_17, l32_18, l32_19, l32_20, l32_21, l32_22, l32_23, l32_24, l32_25, l32_26, l32_27, l32_28, l32_29, l32_33, l32_40, l32_41, l32_44, l32_45, l32_59, l32_61, l32_91, l32_93, l32_123, l32_125, x6]
end LEO
