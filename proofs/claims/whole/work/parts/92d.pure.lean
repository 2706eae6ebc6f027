/-! ===== PURE: built-ins ===== -/
section BLT
variable {N : Nat} {X : Nat → Option zz_C} {t t' : cS} {s s' s0 s1 s2 : mS} {b : Nat → Nat} {n p e i i0 op D D' : Nat} {code code1 code2 fl : List Ins} {vs : List (List Nat)} {cl : List Cn} {W W' : List Wt} {cu cu' : List Nat} {fs : Nat × Nat × Nat} {al : Int32} {rk : Nat → List Value → cS → kO} {Z : List (Nat × Nat)} {ah : Option (Nat × Nat)}
theorem lg_ge {a b : Nat} (ha : a < 9223372036854775808) (hb : b < 9223372036854775808) : (Int32.ofNat 0 ≤ lg_cmp (Int64.ofNat a) (Int64.ofNat b)) = (b ≤ a) := by
  have h := lg_lt0 ha hb
  have h2 : (Int32.ofNat 0 ≤ lg_cmp (Int64.ofNat a) (Int64.ofNat b)) ↔ ¬ (lg_cmp (Int64.ofNat a) (Int64.ofNat b) < Int32.ofNat 0) := Int32.not_lt.symm
  rw [propext h2, h]
  exact propext Nat.not_lt
theorem ev_b32 {a : Int32} {g : Int32 → kO} : co_b (some a) g = g a := rfl
/-- the word that stands there -/
theorem c_word {w : Nat} (hX : oX N X) (h : pR b n i op t s) (hk : ∀ hi : i < (TL b n).length, (TL b n)[i].1 = 3 ∧ wix (TL b n)[i].2.2.1 = some w) : cf_199 N X t = some (t, .inl (some (.ref (zz_out + (w + 1))))) ∧ kI t 3 5 = Int32.ofNat 4 ∧ kL t 3 7 = Int64.ofNat w ∧ w < 41 := by
  obtain ⟨hi, e5, e6, e7, hkk, ho, he, hlt, hll⟩ := h.now
  obtain ⟨k1, k2⟩ := hk hi
  have hw := (wix_some k2).1
  have hv : kL t 3 7 = Int64.ofNat w := by
    rw [e7]
    unfold c3
    rw [if_pos k1, k2]
    exact i64of32 (by omega)
  have h4 : kI t 3 5 = Int32.ofNat 4 := by
    rw [e5]
    exact congrArg Int32.ofNat (ck4.mpr (Or.inl ⟨k1, w, k2⟩))
  refine ⟨?_, h4, hv, hw⟩
  have hl := hX.1
  have hr := (hX.2.1 w hw).1
  have z0 : (0 : Int64) = Int64.ofNat 0 := rfl
  have q1 := lg_lt0 (a := w) (b := 0) (by omega) (by omega)
  have q2 := lg_ge (a := w) (b := 41) (by omega) (by omega)
  have q3 : Int32.toInt64 (Int32.ofNat 41) = Int64.ofNat 41 := i64of32 (by omega)
  unfold cf_199 cf_199_0 cf_199_7 cf_199_10 cf_248 cf_248_0 cf_248_6 cf_248_16 cf_248_28
  simp (disch := omega) only [ev_S, ev_C, ↓reduceIte, Nat.reduceEqDiff, Nat.reduceLeDiff, Nat.reduceAdd, Nat.reduceMul, Nat.reduceSub, reduceCtorEq, l32_0, l32_1, l32_2, l32_3, l32_4, l32_5, l32_6, l32_7, l32_8, l32_9, l32_10, l32_11, l32_12, l32_13, l32_14, l32_15, l32_16, l32_17, l32_18, l32_19, l32_20, l32_21, l32_22, l32_23, l32_24, l32_25, l32_26, l32_27, l32_28, l32_29, l32_33, l32_40, l32_41, l32_44, l32_45, l32_59, l32_61, l32_91, l32_93, l32_123, l32_125, c_valueNow, hv, z0, q1, hl, ev_b32, q3, q2, Int64.toInt32_ofNat', hr]
theorem ac_eq {a b : Nat} : (zz_ac .eq a b = true) = (a = b) := by
  unfold zz_ac
  simp
theorem ac_ne {a b : Nat} : (zz_ac .ne a b = true) = ¬ (a = b) := by
  unfold zz_ac
  simp
/-- a built-in but each and fold -/
theorem p_blt {F w : Nat} (hN : 170000 ≤ N) (hX : oX N X) (hY : oY X) (hSX : SX N X b n p e F) (h : PE b n p e i op D code code vs cl W cu fs t s) (hwn : rWn s) (hF : 10 * (10 - op) ≤ F) (hWl : W.length ≤ 6 * op + 5) (hk : ∀ hi : i < (TL b n).length, (TL b n)[i].1 = 3 ∧ wix (TL b n)[i].2.2.1 = some w) (hw : 11 ≤ w ∧ w < 39) : RS N b n p e i op (D + 1) code W cu fs al t s (cf_192 N X (cf_S0 N X (F + 1)) (zz_out + (w + 1)) t) := by
  obtain ⟨hi, e5, e6, e7, hkk, ho, he, hlt, hll⟩ := h.1.now
  obtain ⟨-, -, hcv, -⟩ := c_word (N := N) (X := X) hX h.1 hk
  obtain ⟨k1, k2⟩ := hk hi
  have h9 : s.1 9 = Int32.ofNat 0 := h.1.2.2.2.2.2.2.2.2.2
  have hop := h.1.2.2.2.1
  have hst := st_word hN h.1.2.2.2.2.2.2.2.1 hkk k1 k2 (by omega)
  rw [if_pos hw.1] at hst
  obtain ⟨y1, y2, y3⟩ := hY w (by omega)
  have hwhi : 1 ≤ whi w ∧ whi w ≤ 6 := by
    unfold whi wnt
    repeat' split
    all_goals omega
  have hff : cf_202 N X (Int32.ofNat 1) (Int32.ofNat 2) t = some (t, .inl none) := c_fine
  have hC : ∀ t1, cf_46 N X t = some (t1, .inl none) → cf_192 N X (cf_S0 N X (F + 1)) (zz_out + (w + 1)) t = ko_call 5 (cf_194 N X (cf_S0 N X F) (Int32.ofNat 40) (Int32.ofNat 41) (Int32.ofNat (wlo w)) (Int32.ofNat (whi w)) t1) (fun g1 v1 => co_i v1 (fun y => cf_192_81 N X (cf_S0 N X (F + 1)) (zz_out + (w + 1)) (Int32.ofNat (TL b n)[i].2.2.2.1) (Int32.ofNat w) y g1)) := fun t1 a1 => by
    have hiB : cf_249 N X (zz_out + (w + 1)) t = some (t, .inl (some (.int (Int32.ofNat 1)))) := by
      unfold cf_249 cf_249_0 cf_249_7 cf_249_12
      simp (disch := omega) only [ev_S, ev_C, ↓reduceIte, Nat.reduceEqDiff, Nat.reduceLeDiff, Nat.reduceAdd, Nat.reduceMul, Nat.reduceSub, reduceCtorEq, l32_0, l32_1, l32_2, l32_3, l32_4, l32_5, l32_6, l32_7, l32_8, l32_9, l32_10, l32_11, l32_12, l32_13, l32_14, l32_15, l32_16, l32_17, l32_18, l32_19, l32_20, l32_21, l32_22, l32_23, l32_24, l32_25, l32_26, l32_27, l32_28, l32_29, l32_33, l32_40, l32_41, l32_44, l32_45, l32_59, l32_61, l32_91, l32_93, l32_123, l32_125, y3, ev_b32]
    have o1 : (zz_out + (w + 1) < zz_out) = False := eq_false (by omega)
    have o2 : (zz_out < zz_out + (w + 1)) = True := eq_true (by omega)
    have o3 : (zz_out + (w + 1) ≤ zz_out + 41) = True := eq_true (by omega)
    have o4 : (zz_out + (w + 1) = zz_out + 40) = False := eq_false (by omega)
    have o5 : (zz_out + (w + 1) = zz_out + 41) = False := eq_false (by omega)
    have o6 : (zz_out < zz_out + 40) = True := eq_true (by omega)
    have o7 : (zz_out + 40 ≤ zz_out + 41) = True := eq_true (by omega)
    have o8 : (zz_out < zz_out + 41) = True := eq_true (by omega)
    have o9 : (zz_out + 41 ≤ zz_out + 41) = True := eq_true (by omega)
    unfold cf_192 cf_192_0 cf_192_5 cf_192_9 cf_192_16 cf_192_24
    simp (disch := omega) only [ev_S, ev_C, ↓reduceIte, Nat.reduceEqDiff, Nat.reduceLeDiff, Nat.reduceAdd, Nat.reduceMul, Nat.reduceSub, reduceCtorEq, l32_0, l32_1, l32_2, l32_3, l32_4, l32_5, l32_6, l32_7, l32_8, l32_9, l32_10, l32_11, l32_12, l32_13, l32_14, l32_15, l32_16, l32_17, l32_18, l32_19, l32_20, l32_21, l32_22, l32_23, l32_24, l32_25, l32_26, l32_27, l32_28, l32_29, l32_33, l32_40, l32_41, l32_44, l32_45, l32_59, l32_61, l32_91, l32_93, l32_123, l32_125, o1, y1, hiB, hff, c_placeNow, c_valueNow, hcv, e6, Int64.toInt32_ofNat', a1]
    unfold cf_192_33 cf_192_40 cf_192_65
    simp (disch := omega) only [ev_S, ev_C, ↓reduceIte, Nat.reduceEqDiff, Nat.reduceLeDiff, Nat.reduceAdd, Nat.reduceMul, Nat.reduceSub, reduceCtorEq, l32_0, l32_1, l32_2, l32_3, l32_4, l32_5, l32_6, l32_7, l32_8, l32_9, l32_10, l32_11, l32_12, l32_13, l32_14, l32_15, l32_16, l32_17, l32_18, l32_19, l32_20, l32_21, l32_22, l32_23, l32_24, l32_25, l32_26, l32_27, l32_28, l32_29, l32_33, l32_40, l32_41, l32_44, l32_45, l32_59, l32_61, l32_91, l32_93, l32_123, l32_125, o2, o3, o4, o5, o6, o7, o8, o9, ac_eq, ac_ne, y2, y3, ev_b32]
    rfl
  obtain ⟨hi0, (⟨t1, t2, s3, a1, a2, a3, a4, a5, a6⟩ | ⟨t1, t2, s3, a1, a2, a3, a4, a5⟩)⟩ := p_beg (N := N) (X := X) (x1 := Int32.ofNat w) (q := 7) (a := w - 11) hN h (Or.inr (Or.inl ⟨by rw [show w - 11 + 11 = w by omega], by omega, rfl⟩)) hWl (fun _ => k1)
  · rw [hC t1 a1]
    rw [if_neg (by decide)] at a5
    have w3 : rWn s3 := hwn.kp a6.2
    obtain ⟨hi2, _, _, _, hkk2, _, _, _, _⟩ := a4.1.now
    have g1 := r_isSign (N := N) (c := 41) hkk2 (by decide) (by decide)
    have hC2 : cf_194 N X (cf_S0 N X F) (Int32.ofNat 40) (Int32.ofNat 41) (Int32.ofNat (wlo w)) (Int32.ofNat (whi w)) t1 = cf_194_5 N X (cf_S0 N X F) (Int32.ofNat 41) (Int32.ofNat (wlo w)) (Int32.ofNat (whi w)) t2 := by
      unfold cf_194 cf_194_0
      simp (disch := omega) only [ev_S, ev_C, ↓reduceIte, Nat.reduceEqDiff, Nat.reduceLeDiff, Nat.reduceAdd, Nat.reduceMul, Nat.reduceSub, reduceCtorEq, l32_0, l32_1, l32_2, l32_3, l32_4, l32_5, l32_6, l32_7, l32_8, l32_9, l32_10, l32_11, l32_12, l32_13, l32_14, l32_15, l32_16, l32_17, l32_18, l32_19, l32_20, l32_21, l32_22, l32_23, l32_24, l32_25, l32_26, l32_27, l32_28, l32_29, l32_33, l32_40, l32_41, l32_44, l32_45, l32_59, l32_61, l32_91, l32_93, l32_123, l32_125, a2]
    rw [hC2]
    have hQ : okQ 7 (w - 11) (wlo w) (whi w) := ⟨Or.inr (Or.inr rfl), fun _ => ⟨by omega, by rw [show w - 11 + 11 = w by omega], by rw [show w - 11 + 11 = w by omega]⟩, fun z => absurd rfl z⟩
    rcases p_list2 (al := al) (s0 := s) (i0 := i) hN hSX hQ (by omega) (by omega) (by omega) a4 w3 (by omega) (by omega) (fun z s4 he2 f => by
      rw [LL_0 h9, hst]
      have z := z hi2
      rw [if_neg (by decide)] at z
      rw [if_pos z] at g1
      unfold mf_286_180 mf_286_186
      rw [a5]
      unfold mf_287_151 mf_287_157 mf_287_160 mf_287_164 mf_287_167 mf_287_172
      simp (disch := omega) only [ev_S, ev_P, ↓reduceIte, Nat.reduceEqDiff, Nat.reduceLeDiff, Nat.reduceAdd, Nat.reduceMul, Nat.reduceSub, reduceCtorEq, l32_0, l32_1, l32_2, l32_3, l32_4, l32_5, l32_6, l32_7, l32_8, l32_9, l32_10, l32_11, l32_12, l32_13, l32_14, l32_15, l32_16, l32_17, l32_18, l32_19, l32_20, l32_21, l32_22, l32_23, l32_24, l32_25, l32_26, l32_27, l32_28, l32_29, l32_33, l32_40, l32_41, l32_44, l32_45, l32_59, l32_61, l32_91, l32_93, l32_123, l32_125, g1, he2]) (fun z f => by
      rw [LL_0 h9, hst]
      have z := z hi2
      rw [if_neg (by decide)] at z
      rw [if_neg z] at g1
      unfold mf_286_180 mf_286_186
      rw [a5]
      unfold mf_287_151 mf_287_157 mf_287_171 mf_287_172
      simp (disch := omega) only [ev_S, ev_P, ↓reduceIte, Nat.reduceEqDiff, Nat.reduceLeDiff, Nat.reduceAdd, Nat.reduceMul, Nat.reduceSub, reduceCtorEq, l32_0, l32_1, l32_2, l32_3, l32_4, l32_5, l32_6, l32_7, l32_8, l32_9, l32_10, l32_11, l32_12, l32_13, l32_14, l32_15, l32_16, l32_17, l32_18, l32_19, l32_20, l32_21, l32_22, l32_23, l32_24, l32_25, l32_26, l32_27, l32_28, l32_29, l32_33, l32_40, l32_41, l32_44, l32_45, l32_59, l32_61, l32_91, l32_93, l32_123, l32_125, g1]) with ⟨t3, s4, c3, i3, seg, vs3, cl3, k3, y1, y2, y3, y4, y5, y6, y7, y8, y9⟩ | ⟨t3, s4, k3, y1, y2, y3, y4, y5⟩
    · rw [if_neg (by decide)] at y1
      rw [y1]
      have hP : kP t3 2 1 = some p := y4.2.1.1
      have hp : (p = 12 ∨ p = 21) = True := eq_true y4.2.1.2.1
      obtain ⟨m1, m2, m3, m4, m5⟩ := y5
      have h49 : s4.1 9 = Int32.ofNat 0 := y4.1.2.2.2.2.2.2.2.2.2
      have hW8 : W.length < 80 := by omega
      have hcnt : w - 11 = 5 ∨ (1 ≤ c3 ∧ c3 ≤ 2) := by
        by_cases z : w = 16
        · omega
        · refine Or.inr ?_
          unfold wlo whi wnt at y6
          unfold whi wnt at y7
          repeat' split at y6
          all_goals (repeat' split at y7)
          all_goals omega
      have hcnt2 : ¬ w - 11 = 5 → c3 = if w - 11 = 3 ∨ 19 ≤ w - 11 then 2 else 1 := by
        intro z5
        by_cases z : w = 16
        · omega
        · unfold wlo whi wnt at y6
          unfold whi wnt at y7
          repeat' split at y6
          all_goals (repeat' split at y7)
          all_goals (first | omega | (split <;> omega))
      have hcI : cI (code ++ seg) (posC (code ++ seg) (code ++ seg).length) (8, c3, w - 11, 0, Int32.ofNat (TL b n)[i].2.2.2.1, 0, 0) = [(if w - 11 = 5 then Int32.ofNat 24 else if c3 = 1 then Int32.ofNat 22 else Int32.ofNat 23, if w - 11 = 5 then Int32.ofNat c3 else Int32.ofNat w, Int32.ofNat (TL b n)[i].2.2.2.1)] := by
        show (if w - 11 = 5 then _ else if c3 = 1 then _ else _) = _
        by_cases z : w - 11 = 5
        · rw [if_pos z, if_pos z, if_pos z]
          rfl
        · rw [if_neg z, if_neg z, if_neg z]
          rw [show w - 11 + 11 = w by omega]
          by_cases z2 : c3 = 1
          · rw [if_pos z2, if_pos z2]
            rfl
          · rw [if_neg z2, if_neg z2]
            rfl
      obtain ⟨t5, s5, d1, d2, d3, d4, d5⟩ := y4.bo (N := N) (X := X) (c := (8, c3, w - 11, 0, Int32.ofNat (TL b n)[i].2.2.2.1, 0, 0)) (cu' := 0 :: cu) (D' := D + 1) (x1 := Int32.ofNat 8) (x2 := Int32.ofNat (w - 11)) (x3 := Int32.ofNat c3) (x4 := Int32.ofNat (TL b n)[i].2.2.2.1) hcI rfl (Or.inr (Or.inr (by simp))) (eff_lit ⟨Or.inr rfl, rfl⟩) ⟨by simp, by simp, fun _ => ⟨by show w - 11 < 28; omega, fun _ => by show c3 ≤ 6; omega, fun z => hcnt2 z⟩, by simp, by simp, by simp, by simp⟩ (by omega) (Or.inr (by show D + 1 + (1 + (c3 - 1)) ≤ _; omega))
      have hE : E2 N 7 W.length (Int32.ofNat c3) s4 = some (s5, some (.int (Int32.ofNat 1))) := by
        show mf_290_114 N (Int32.ofNat W.length) (Int32.ofNat c3) s4 = _
        unfold mf_290_114 mf_290_123 mf_290_134 mf_290_153 mf_290_273
        simp (disch := omega) only [ev_S, ev_P, ↓reduceIte, Nat.reduceEqDiff, Nat.reduceLeDiff, Nat.reduceAdd, Nat.reduceMul, Nat.reduceSub, reduceCtorEq, l32_0, l32_1, l32_2, l32_3, l32_4, l32_5, l32_6, l32_7, l32_8, l32_9, l32_10, l32_11, l32_12, l32_13, l32_14, l32_15, l32_16, l32_17, l32_18, l32_19, l32_20, l32_21, l32_22, l32_23, l32_24, l32_25, l32_26, l32_27, l32_28, l32_29, l32_33, l32_40, l32_41, l32_44, l32_45, l32_59, l32_61, l32_91, l32_93, l32_123, l32_125, h49, m1, m2, m4, d2]
      refine Or.inl ⟨t5, s5, k3, i3, seg ++ [_], vs3, cl3, ?_, by omega, by omega, fun f => y9 s5 hE f, by rw [← List.append_assoc]; exact d3, a6.tr (y8.tr d4)⟩
      show cf_192_81 N X (cf_S0 N X (F + 1)) (zz_out + (w + 1)) (Int32.ofNat (TL b n)[i].2.2.2.1) (Int32.ofNat w) (Int32.ofNat c3) t3 = _
      have o2 : (zz_out < zz_out + (w + 1)) = True := eq_true (by omega)
      have o3 : (zz_out + (w + 1) ≤ zz_out + 41) = True := eq_true (by omega)
      have o6 : (zz_out < zz_out + 17) = True := eq_true (by omega)
      have o7 : (zz_out + 17 ≤ zz_out + 41) = True := eq_true (by omega)
      have hc20 : c3 < 20 := by omega
      by_cases z : w - 11 = 5
      · rw [if_pos z, if_pos z] at d1
        have o4 : (zz_out + (w + 1) = zz_out + 17) = True := eq_true (by omega)
        unfold cf_192_81 cf_192_90 cf_192_102 cf_192_129
        simp (disch := omega) only [ev_S, ev_C, ↓reduceIte, Nat.reduceEqDiff, Nat.reduceLeDiff, Nat.reduceAdd, Nat.reduceMul, Nat.reduceSub, reduceCtorEq, l32_0, l32_1, l32_2, l32_3, l32_4, l32_5, l32_6, l32_7, l32_8, l32_9, l32_10, l32_11, l32_12, l32_13, l32_14, l32_15, l32_16, l32_17, l32_18, l32_19, l32_20, l32_21, l32_22, l32_23, l32_24, l32_25, l32_26, l32_27, l32_28, l32_29, l32_33, l32_40, l32_41, l32_44, l32_45, l32_59, l32_61, l32_91, l32_93, l32_123, l32_125, o2, o3, o4, o6, o7, ac_ne, hP, hp, d1]
      · rw [if_neg z, if_neg z] at d1
        have o4 : (zz_out + (w + 1) = zz_out + 17) = False := eq_false (by omega)
        by_cases z2 : c3 = 1
        · rw [if_pos z2] at d1
          subst z2
          unfold cf_192_81 cf_192_106 cf_192_116 cf_192_123 cf_192_128 cf_192_129
          simp (disch := omega) only [ev_S, ev_C, ↓reduceIte, Nat.reduceEqDiff, Nat.reduceLeDiff, Nat.reduceAdd, Nat.reduceMul, Nat.reduceSub, reduceCtorEq, l32_0, l32_1, l32_2, l32_3, l32_4, l32_5, l32_6, l32_7, l32_8, l32_9, l32_10, l32_11, l32_12, l32_13, l32_14, l32_15, l32_16, l32_17, l32_18, l32_19, l32_20, l32_21, l32_22, l32_23, l32_24, l32_25, l32_26, l32_27, l32_28, l32_29, l32_33, l32_40, l32_41, l32_44, l32_45, l32_59, l32_61, l32_91, l32_93, l32_123, l32_125, o2, o3, o4, o6, o7, ac_ne, hP, hp, d1]
        · rw [if_neg z2] at d1
          unfold cf_192_81 cf_192_106 cf_192_121 cf_192_123 cf_192_128 cf_192_129
          simp (disch := omega) only [ev_S, ev_C, ↓reduceIte, Nat.reduceEqDiff, Nat.reduceLeDiff, Nat.reduceAdd, Nat.reduceMul, Nat.reduceSub, reduceCtorEq, l32_0, l32_1, l32_2, l32_3, l32_4, l32_5, l32_6, l32_7, l32_8, l32_9, l32_10, l32_11, l32_12, l32_13, l32_14, l32_15, l32_16, l32_17, l32_18, l32_19, l32_20, l32_21, l32_22, l32_23, l32_24, l32_25, l32_26, l32_27, l32_28, l32_29, l32_33, l32_40, l32_41, l32_44, l32_45, l32_59, l32_61, l32_91, l32_93, l32_123, l32_125, o2, o3, o4, o6, o7, ac_ne, hP, hp, d1, z2]
    · rw [if_neg (by decide)] at y1
      exact Or.inr ⟨t3, s4, k3, by rw [y1]; rfl, y2, fun f => y5 f, y3, a6.pre y4⟩
  · rw [hC t1 a1]
    obtain ⟨x, y, v1, v2, v3, v4, v5, v6, v7⟩ := a4
    refine Or.inr ⟨t2, s3, 2, ?_, by omega, fun f => ?_, ⟨x, y, v1, v2, v3, v4, v5, v6, v7⟩, a5⟩
    · unfold cf_194 cf_194_0
      simp (disch := omega) only [ev_S, ev_C, ↓reduceIte, Nat.reduceEqDiff, Nat.reduceLeDiff, Nat.reduceAdd, Nat.reduceMul, Nat.reduceSub, reduceCtorEq, l32_0, l32_1, l32_2, l32_3, l32_4, l32_5, l32_6, l32_7, l32_8, l32_9, l32_10, l32_11, l32_12, l32_13, l32_14, l32_15, l32_16, l32_17, l32_18, l32_19, l32_20, l32_21, l32_22, l32_23, l32_24, l32_25, l32_26, l32_27, l32_28, l32_29, l32_33, l32_40, l32_41, l32_44, l32_45, l32_59, l32_61, l32_91, l32_93, l32_123, l32_125, a2]
      rfl
    · rw [show f + 2 = (f + 1) + 1 by omega, LL_0 h9, hst]
      unfold mf_286_180 mf_286_186
      simp (disch := omega) only [ev_S, ev_P, ↓reduceIte, Nat.reduceEqDiff, Nat.reduceLeDiff, Nat.reduceAdd, Nat.reduceMul, Nat.reduceSub, reduceCtorEq, l32_0, l32_1, l32_2, l32_3, l32_4, l32_5, l32_6, l32_7, l32_8, l32_9, l32_10, l32_11, l32_12, l32_13, l32_14, l32_15, l32_16, l32_17, l32_18, l32_19, l32_20, l32_21, l32_22, l32_23, l32_24, l32_25, l32_26, l32_27, l32_28, l32_29, l32_33, l32_40, l32_41, l32_44, l32_45, l32_59, l32_61, l32_91, l32_93, l32_123, l32_125, a3]
      exact LL_f (N := N) v6 ⟨v1, v2⟩
/-- a word that is no built-in -/
theorem p_nob {w : Nat} (hN : 170000 ≤ N) (hX : oX N X) (hY : oY X) (h : PE b n p e i op D code code vs cl W cu fs t s) (hk : ∀ hi : i < (TL b n).length, (TL b n)[i].1 = 3 ∧ wix (TL b n)[i].2.2.1 = some w) (hw : w < 11) : RS N b n p e i op D code W cu fs al t s (cf_192 N X rk (zz_out + (w + 1)) t) := by
  obtain ⟨hi, e5, e6, e7, hkk, ho, he, hlt, hll⟩ := h.1.now
  obtain ⟨k1, k2⟩ := hk hi
  have hst := st_word hN h.1.2.2.2.2.2.2.2.1 hkk k1 k2 (by omega)
  rw [if_neg (by omega)] at hst
  obtain ⟨t', a1, a2⟩ := p_wr (al := al) (N := N) (X := X) h hst
  refine Or.inr (a2 _ ?_)
  obtain ⟨y1, y2, y3⟩ := hY w (by omega)
  have hz : whi w = 0 := if_pos hw
  rw [hz] at y3
  have hiB : cf_249 N X (zz_out + (w + 1)) t = some (t, .inl (some (.int (Int32.ofNat 0)))) := by
    unfold cf_249 cf_249_0 cf_249_11 cf_249_12
    simp (disch := omega) only [ev_S, ev_C, ↓reduceIte, Nat.reduceEqDiff, Nat.reduceLeDiff, Nat.reduceAdd, Nat.reduceMul, Nat.reduceSub, reduceCtorEq, l32_0, l32_1, l32_2, l32_3, l32_4, l32_5, l32_6, l32_7, l32_8, l32_9, l32_10, l32_11, l32_12, l32_13, l32_14, l32_15, l32_16, l32_17, l32_18, l32_19, l32_20, l32_21, l32_22, l32_23, l32_24, l32_25, l32_26, l32_27, l32_28, l32_29, l32_33, l32_40, l32_41, l32_44, l32_45, l32_59, l32_61, l32_91, l32_93, l32_123, l32_125, y3, ev_b32]
  have o1 : (zz_out + (w + 1) < zz_out) = False := eq_false (by omega)
  have a1 : cf_202 N X (Int32.ofNat 0) (Int32.ofNat 2) t = some (t', .inr ()) := a1
  unfold cf_192 cf_192_0 cf_192_5
  simp (disch := omega) only [ev_S, ev_C, ↓reduceIte, Nat.reduceEqDiff, Nat.reduceLeDiff, Nat.reduceAdd, Nat.reduceMul, Nat.reduceSub, reduceCtorEq, l32_0, l32_1, l32_2, l32_3, l32_4, l32_5, l32_6, l32_7, l32_8, l32_9, l32_10, l32_11, l32_12, l32_13, l32_14, l32_15, l32_16, l32_17, l32_18, l32_19, l32_20, l32_21, l32_22, l32_23, l32_24, l32_25, l32_26, l32_27, l32_28, l32_29, l32_33, l32_40, l32_41, l32_44, l32_45, l32_59, l32_61, l32_91, l32_93, l32_123, l32_125, o1, y1, hiB, a1]
  rfl
end BLT
