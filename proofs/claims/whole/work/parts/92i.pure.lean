/-! ===== PURE: what has one part ===== -/
section UNA
variable {N : Nat} {X : Nat → Option zz_C} {t t' : cS} {s s' s0 s1 s2 : mS} {b : Nat → Nat} {n p e i i0 op D D' : Nat} {code code1 code2 fl : List Ins} {vs : List (List Nat)} {cl : List Cn} {W W' : List Wt} {cu cu' : List Nat} {fs : Nat × Nat × Nat} {al : Int32} {rk : Nat → List Value → cS → kO} {Z : List (Nat × Nat)} {ah : Option (Nat × Nat)}
/-- an atom and its indices -/
def RI (N : Nat) (b : Nat → Nat) (n p e i op D : Nat) (code : List Ins) (W : List Wt) (cu : List Nat) (fs : Nat × Nat × Nat) (al : Int32) (t : cS) (s : mS) (R : kO) : Prop := (∃ t' s' k i' seg vs' cl', R = some (t', .inl none) ∧ i < i' ∧ k + i ≤ i' ∧ (∀ f, LL N (f + k) al (Int32.ofNat 0) s = LL N f al (Int32.ofNat 1) s') ∧ PE b n p e i' op D (code ++ seg) (code ++ seg) vs' cl' W (0 :: cu) fs t' s' ∧ (∀ hi : i' < (TL b n).length, ¬ (TL b n)[i'].1 = 91) ∧ FR p e t t' s s') ∨ FLT N b n p e i al (Int32.ofNat 0) t s R
theorem p_idx {F : Nat} (hN : 170000 ≤ N) (hX : oX N X) (hY : oY X) (hS0 : SX N X b n p e F) (hS1 : SX N X b n p e (F + 1)) (hS2 : SX N X b n p e (F + 2)) (hS3 : SX N X b n p e (F + 3)) (h : PE b n p e i op D code code vs cl W cu fs t s) (hwn : rWn s) (hD1 : 1 ≤ D) (hF : 10 * (10 - op) ≤ F) (hWl : W.length ≤ 6 * op + 5) (ha : al = 0 ∨ ¬ W = []) (hk : ∀ hi : i < (TL b n).length, (TL b n)[i].1 = 45 ∨ (TL b n)[i].1 = 33 → mf_283 N (Int32.ofNat 2) s = some (s, some (.int (Int32.ofNat 1)))) : RI N b n p e i op D code W cu fs al t s (cf_189 N X (cf_S0 N X (F + 3)) t) := by
  have hC : cf_189 N X (cf_S0 N X (F + 3)) t = ko_call 5 (cf_190 N X (cf_S0 N X (F + 2)) t) (fun g1 v1 => co_v v1 (cf_189_L1 N X (cf_S0 N X (F + 3)) N 0 (Int32.ofNat 0) g1)) := rfl
  rw [hC]
  rcases p_atom (al := al) hN hX hY hS0 hS1 hS2 h hwn hD1 hF hWl hk with ⟨t8, s8, k8, i8, seg8, vs8, cl8, z1, z2, z3, z4, z5, z6⟩ | ⟨t8, s8, k8, z1, z2, z3, z4, z5⟩
  · have w8 : rWn s8 := hwn.kp z6.2
    obtain ⟨hi8, _, _, _, _, _, _, _, hll⟩ := z5.1.now
    rw [z1]
    show RI N b n p e i op D code W cu fs al t s (cf_189_L1 N X (cf_S0 N X (F + 3)) N 0 (Int32.ofNat 0) t8)
    rcases p_idxL (al := al) hN hS3 (by omega) hWl ha (TL b n).length i8 (code ++ seg8) vs8 cl8 t8 s8 0 N (by omega) z5 w8 (by omega) (by omega) hD1 with ⟨t9, s9, k9, i9, seg9, vs9, cl9, y1, y2, y3, y4, y5, y6, y7⟩ | ⟨t9, s9, k9, y1, y2, y3, y4, y5⟩
    · refine Or.inl ⟨t9, s9, k9 + k8, i9, seg8 ++ seg9, vs9, cl9, y1, by omega, by omega, fun f => ?_, by rw [← List.append_assoc]; exact y5, y6, z6.tr y7⟩
      rw [← Nat.add_assoc, z4]
      exact y4 f
    · refine Or.inr ⟨t9, s9, k9 + k8, y1, by omega, fun f => ?_, y4, z6.pre y5⟩
      rw [← Nat.add_assoc, z4]
      exact y3 f
  · exact Or.inr ⟨t8, s8, k8, by rw [z1]; rfl, z2, z3, z4, z5⟩
theorem PE.rb (h : PE b n p e i op D code code1 vs cl W cu fs t s) (h1 : rl code + xl code + cl.length + D' ≤ i + 1) (h2 : cx code + 3 * D' ≤ 4 * i + 4) : PE b n p e i op D' code code1 vs cl W cu fs t s := by
  obtain ⟨g1, hc, hr, hw, hW, hV, k1, k2, k3, k4, k5, k6, k7⟩ := h
  exact ⟨g1, hc, hr, hw, hW, hV, k1, k2, k3, k4, h1, k6, h2⟩
theorem lv_le (k : Nat) : lv k = 9 ∨ lv k < 4 := by
  unfold lv
  repeat' split
  all_goals omega
/-- what has one part -/
theorem p_una {F : Nat} (hN : 170000 ≤ N) (hX : oX N X) (hY : oY X) (hS0 : SX N X b n p e F) (hS1 : SX N X b n p e (F + 1)) (hS2 : SX N X b n p e (F + 2)) (hS3 : SX N X b n p e (F + 3)) (h : PE b n p e i op D code code vs cl W cu fs t s) (hwn : rWn s) (hD1 : 1 ≤ D) (hF : 10 * (10 - op) ≤ F) (hWl : W.length ≤ 6 * op + 4) (hs : HW 4 W) (ha : al = 0 ∨ ¬ W = []) : RX N b n p e 4 i op D code W cu fs al t s (cf_188 N X (cf_S0 N X (F + 4)) t) := by
  obtain ⟨hi, e5, e6, e7, hkk, ho, he, hlt, hll⟩ := h.1.now
  have hop := h.1.2.2.2.1
  have h9 : s.1 9 = Int32.ofNat 0 := h.1.2.2.2.2.2.2.2.2.2
  have kn : cf_42 N X t = some (t, .inl (some (.int (Int32.ofNat (ck (TL b n)[i]))))) := by rw [c_kindNow, e5]
  have pn : cf_243 N X t = some (t, .inl (some (.int (Int32.ofNat (TL b n)[i].2.2.2.1)))) := by rw [c_placeNow, e6]
  have hck1 : ck (TL b n)[i] = 45 ↔ (TL b n)[i].1 = 45 := ck_sg (by decide)
  have hck2 : ck (TL b n)[i] = 33 ↔ (TL b n)[i].1 = 33 := ck_sg (by decide)
  have h5 := h.2.2.2.2.1
  have hno : mf_283 N (Int32.ofNat 2) s = some (s, some (.int (Int32.ofNat 0))) := by
    rcases hs with z | ⟨W', w, z, z2 | ⟨y, z2, z3, z4⟩⟩
    · rw [z] at h5
      exact r_isW0 h5
    · rw [z] at h5
      have := r_isW (N := N) (k := 2) h5 (by decide)
      rw [if_neg (by omega)] at this
      exact this
    · rw [z, z2] at h5
      have := r_isW (N := N) (k := 2) h5 (by decide)
      rw [if_neg (by show ¬ 1 = 2; decide)] at this
      exact this
  by_cases c : (TL b n)[i].1 = 45 ∨ (TL b n)[i].1 = 33
  · -- a sign ahead
    have hst := st_ahead hN h.1.2.2.2.2.2.2.2.1 hkk c hno
    have hv : s.2.1 7 = Int64.ofNat (TL b n)[i].1 := by
      obtain ⟨y1, y2, y3 | y3 | y3 | y3 | y3⟩ := hkk
      · omega
      · omega
      · omega
      · omega
      · have : sgv (TL b n)[i].1 = (TL b n)[i].1 := by
          unfold sgv
          rw [if_pos (by omega)]
        rw [y3.2.2.2, this]
    obtain ⟨s1, b1, b2, b3⟩ := r_wait (N := N) (k := 2) (a := (TL b n)[i].1) (p := (TL b n)[i].2.2.2.1) h5 (by omega) (by decide)
    obtain ⟨c1, c2⟩ := h.wt b2 b3
    obtain ⟨t3, s3, d1, d2, d3, d4, d5⟩ := c1.adv (N := N) (X := X) hN (fun _ => by omega)
    have hLL : ∀ f, LL N (f + 1) al (Int32.ofNat 0) s = LL N f al (Int32.ofNat 0) s3 := fun f => by
      rw [LL_0 h9, hst]
      unfold mf_286_63 mf_286_74 mf_286_78
      simp (disch := omega) only [ev_S, ev_P, ↓reduceIte, Nat.reduceEqDiff, Nat.reduceLeDiff, Nat.reduceAdd, Nat.reduceMul, Nat.reduceSub, reduceCtorEq, l32_0, l32_1, l32_2, l32_3, l32_4, l32_5, l32_6, l32_7, l32_8, l32_9, l32_10, l32_11, l32_12, l32_13, l32_14, l32_15, l32_16, l32_17, l32_18, l32_19, l32_20, l32_21, l32_22, l32_23, l32_24, l32_25, l32_26, l32_27, l32_28, l32_29, l32_33, l32_40, l32_41, l32_44, l32_45, l32_59, l32_61, l32_91, l32_93, l32_123, l32_125, hv, Int64.toInt32_ofNat', b1, d2]
    have hall : FR p e t t3 s s3 := c2.tr ⟨d4, d5⟩
    have hne : al = 0 ∨ ¬ (W ++ [(2, (TL b n)[i].1, 0, (TL b n)[i].2.2.2.1, (0 : Int64), 0)]) = [] := Or.inr (by simp)
    have hyes : ∀ s4, rW s4 (W ++ [(2, (TL b n)[i].1, 0, (TL b n)[i].2.2.2.1, 0, 0)]) → mf_283 N (Int32.ofNat 2) s4 = some (s4, some (.int (Int32.ofNat 1))) := fun s4 hh => by
      have := r_isW (N := N) (k := 2) hh (by decide)
      rw [if_pos rfl] at this
      exact this
    have w3 : rWn s3 := hwn.kp hall.2
    have hoA : okA (some ((TL b n)[i].1, (TL b n)[i].2.2.2.1)) := c
    by_cases c45 : (TL b n)[i].1 = 45
    · have k1 := hck1.mpr c45
      have hP3 : kP t3 2 1 = some p := d3.2.1.1
      have hp : (p = 12 ∨ p = 21) = True := eq_true d3.2.1.2.1
      obtain ⟨t4, f1, f2, f3⟩ := d3.em1 (N := N) (X := X) (c := (2, 0, 0, 0, Int32.ofNat (TL b n)[i].2.2.2.1, 0, 0)) (cu' := 1 :: cu) (D' := D) (k := Int32.ofNat 0) (a := Int32.ofNat 0) (v := Int32.ofNat (TL b n)[i].2.2.2.1) rfl (Or.inr (Or.inl (Nat.zero_le _))) rfl (by unfold okI; simp) (by omega) (Or.inl (by unfold rlen xlen; simp))
      have f2 := f2.rb (D' := D + 1) (by have := h.2.2.2.2.2.2.2.2.2.2.1; rw [rl_app, rl_one, xl_app, xl_one]; show rl code + 0 + (xl code + 0) + _ + _ ≤ _; omega) (by have := h.2.2.2.2.2.2.2.2.2.2.2.2; rw [cx_app, cx_one]; show cx code + 1 + _ ≤ _; omega)
      obtain ⟨g1, g2⟩ := f2.rEm (s' := s3) (fl := []) (c := (2, 0, 0, 0, Int32.ofNat (TL b n)[i].2.2.2.1, 0, 0)) (Or.inr (Or.inl (Nat.zero_le _))) rfl (by show rCd s3 e (RA e code ++ []); rw [List.append_nil]; exact f2.2.2.1) fO.rf
      have hC : cf_188 N X (cf_S0 N X (F + 4)) t = ko_call 5 (cf_189 N X (cf_S0 N X (F + 3)) t4) (fun g1 v1 => co_v v1 (cf_188_44 N X (cf_S0 N X (F + 4)) (Int32.ofNat (TL b n)[i].2.2.2.1) g1)) := by
        unfold cf_188 cf_188_0 cf_188_7 cf_188_15
        simp (disch := omega) only [ev_S, ev_C, ↓reduceIte, Nat.reduceEqDiff, Nat.reduceLeDiff, Nat.reduceAdd, Nat.reduceMul, Nat.reduceSub, reduceCtorEq, l32_0, l32_1, l32_2, l32_3, l32_4, l32_5, l32_6, l32_7, l32_8, l32_9, l32_10, l32_11, l32_12, l32_13, l32_14, l32_15, l32_16, l32_17, l32_18, l32_19, l32_20, l32_21, l32_22, l32_23, l32_24, l32_25, l32_26, l32_27, l32_28, l32_29, l32_33, l32_40, l32_41, l32_44, l32_45, l32_59, l32_61, l32_91, l32_93, l32_123, l32_125, kn, k1, pn]
        unfold cf_188_22 cf_188_29 cf_188_39
        simp (disch := omega) only [ev_S, ev_C, ↓reduceIte, Nat.reduceEqDiff, Nat.reduceLeDiff, Nat.reduceAdd, Nat.reduceMul, Nat.reduceSub, reduceCtorEq, l32_0, l32_1, l32_2, l32_3, l32_4, l32_5, l32_6, l32_7, l32_8, l32_9, l32_10, l32_11, l32_12, l32_13, l32_14, l32_15, l32_16, l32_17, l32_18, l32_19, l32_20, l32_21, l32_22, l32_23, l32_24, l32_25, l32_26, l32_27, l32_28, l32_29, l32_33, l32_40, l32_41, l32_44, l32_45, l32_59, l32_61, l32_91, l32_93, l32_123, l32_125, d1, hP3, hp, f1]
        rfl
      rw [hC]
      rcases p_idx (al := al) hN hX hY hS0 hS1 hS2 hS3 g1 w3 (by omega) hF (by rw [List.length_append, List.length_singleton]; omega) hne (fun _ _ => hyes s3 g1.2.2.2.2.1) with ⟨t8, s8, k8, i8, seg8, vs8, cl8, z1, z2, z3, z4, z5, z6, z7⟩ | ⟨t8, s8, k8, z1, z2, z3, z4, z5⟩
      · rw [z1]
        have hP8 : kP t8 2 1 = some p := z5.2.1.1
        obtain ⟨t9, q1, q2, q3⟩ := z5.em1 (N := N) (X := X) (c := (3, 0, 0, 0, Int32.ofNat (TL b n)[i].2.2.2.1, 0, 0)) (cu' := 0 :: cu) (D' := D) (k := Int32.ofNat 19) (a := Int32.ofNat 45) (v := Int32.ofNat (TL b n)[i].2.2.2.1) rfl (Or.inr (Or.inl (Nat.zero_le _))) rfl (by unfold okI; simp) (by omega) (Or.inl (by unfold rlen xlen; simp))
        refine Or.inl ⟨t9, s8, k8 + 1, i8, [(2, 0, 0, 0, Int32.ofNat (TL b n)[i].2.2.2.1, 0, 0)] ++ seg8 ++ [(3, 0, 0, 0, Int32.ofNat (TL b n)[i].2.2.2.1, 0, 0)], code ++ [(2, 0, 0, 0, Int32.ofNat (TL b n)[i].2.2.2.1, 0, 0)] ++ seg8, vs8, cl8, [], some ((TL b n)[i].1, (TL b n)[i].2.2.2.1), ?_, by omega, by omega, fun f => ?_, ?_, ?_, hoA, fun z hz => (by cases hz), fun hi8 => ⟨z6 hi8, ?_⟩, hall.tr (f3.tr (z7.tr q3))⟩
        · show cf_188_44 N X (cf_S0 N X (F + 4)) (Int32.ofNat (TL b n)[i].2.2.2.1) t8 = _
          unfold cf_188_44 cf_188_56 cf_188_109
          simp (disch := omega) only [ev_S, ev_C, ↓reduceIte, Nat.reduceEqDiff, Nat.reduceLeDiff, Nat.reduceAdd, Nat.reduceMul, Nat.reduceSub, reduceCtorEq, l32_0, l32_1, l32_2, l32_3, l32_4, l32_5, l32_6, l32_7, l32_8, l32_9, l32_10, l32_11, l32_12, l32_13, l32_14, l32_15, l32_16, l32_17, l32_18, l32_19, l32_20, l32_21, l32_22, l32_23, l32_24, l32_25, l32_26, l32_27, l32_28, l32_29, l32_33, l32_40, l32_41, l32_44, l32_45, l32_59, l32_61, l32_91, l32_93, l32_123, l32_125, hP8, hp, q1]
        · rw [← Nat.add_assoc, hLL]
          exact z4 f
        · show PE b n p e i8 op D (code ++ ([(2, 0, 0, 0, Int32.ofNat (TL b n)[i].2.2.2.1, 0, 0)] ++ seg8 ++ [(3, 0, 0, 0, Int32.ofNat (TL b n)[i].2.2.2.1, 0, 0)])) (code ++ [(2, 0, 0, 0, Int32.ofNat (TL b n)[i].2.2.2.1, 0, 0)] ++ seg8) vs8 cl8 (W ++ [] ++ [(2, (TL b n)[i].1, 0, (TL b n)[i].2.2.2.1, 0, 0)]) (0 :: cu) fs t9 s8
          rw [List.append_nil, ← List.append_assoc, ← List.append_assoc]
          exact q2
        · show code ++ ([(2, 0, 0, 0, Int32.ofNat (TL b n)[i].2.2.2.1, 0, 0)] ++ seg8 ++ [(3, 0, 0, 0, Int32.ofNat (TL b n)[i].2.2.2.1, 0, 0)]) = (code ++ [(2, 0, 0, 0, Int32.ofNat (TL b n)[i].2.2.2.1, 0, 0)] ++ seg8) ++ [(if (TL b n)[i].1 = 45 then 3 else 4, 0, 0, 0, Int32.ofNat (TL b n)[i].2.2.2.1, 0, 0)] ++ []
          rw [if_pos c45, List.append_nil, ← List.append_assoc, ← List.append_assoc]
        · rcases lv_le (TL b n)[i8].1 with y | y
          · exact Or.inl y
          · exact Or.inr (Or.inl y)
      · refine Or.inr ⟨t8, s8, k8 + 1, by rw [z1]; rfl, by omega, fun f => ?_, z4, hall.pre (f3.pre z5)⟩
        rw [← Nat.add_assoc, hLL]
        exact z3 f
    · have c33 : (TL b n)[i].1 = 33 := by omega
      have k1 := hck2.mpr c33
      have hC : cf_188 N X (cf_S0 N X (F + 4)) t = ko_call 5 (cf_189 N X (cf_S0 N X (F + 3)) t3) (fun g1 v1 => co_v v1 (cf_188_77 N X (cf_S0 N X (F + 4)) (Int32.ofNat (TL b n)[i].2.2.2.1) g1)) := by
        unfold cf_188 cf_188_0 cf_188_7 cf_188_15 cf_188_60
        simp (disch := omega) only [ev_S, ev_C, ↓reduceIte, Nat.reduceEqDiff, Nat.reduceLeDiff, Nat.reduceAdd, Nat.reduceMul, Nat.reduceSub, reduceCtorEq, l32_0, l32_1, l32_2, l32_3, l32_4, l32_5, l32_6, l32_7, l32_8, l32_9, l32_10, l32_11, l32_12, l32_13, l32_14, l32_15, l32_16, l32_17, l32_18, l32_19, l32_20, l32_21, l32_22, l32_23, l32_24, l32_25, l32_26, l32_27, l32_28, l32_29, l32_33, l32_40, l32_41, l32_44, l32_45, l32_59, l32_61, l32_91, l32_93, l32_123, l32_125, kn, k1, pn]
        unfold cf_188_66 cf_188_73
        simp (disch := omega) only [ev_S, ev_C, ↓reduceIte, Nat.reduceEqDiff, Nat.reduceLeDiff, Nat.reduceAdd, Nat.reduceMul, Nat.reduceSub, reduceCtorEq, l32_0, l32_1, l32_2, l32_3, l32_4, l32_5, l32_6, l32_7, l32_8, l32_9, l32_10, l32_11, l32_12, l32_13, l32_14, l32_15, l32_16, l32_17, l32_18, l32_19, l32_20, l32_21, l32_22, l32_23, l32_24, l32_25, l32_26, l32_27, l32_28, l32_29, l32_33, l32_40, l32_41, l32_44, l32_45, l32_59, l32_61, l32_91, l32_93, l32_123, l32_125, d1]
        rfl
      rw [hC]
      rcases p_idx (al := al) hN hX hY hS0 hS1 hS2 hS3 d3 w3 (by omega) hF (by rw [List.length_append, List.length_singleton]; omega) hne (fun _ _ => hyes s3 d3.2.2.2.2.1) with ⟨t8, s8, k8, i8, seg8, vs8, cl8, z1, z2, z3, z4, z5, z6, z7⟩ | ⟨t8, s8, k8, z1, z2, z3, z4, z5⟩
      · rw [z1]
        have hP8 : kP t8 2 1 = some p := z5.2.1.1
        have hp : (p = 12 ∨ p = 21) = True := eq_true z5.2.1.2.1
        have hrm : rmG t8 := z5.1.1.2.2.2.2.2.2.2
        obtain ⟨hi8, _, _, _, _, _, _, _, _⟩ := z5.1.now
        have hcx := z5.2.2.2.2.2.2.2.2.2.2.2.2
        obtain ⟨t9, q1, q2, q3, q4⟩ := c_emit (N := N) (X := X) (k := Int32.ofNat 0) (a := Int32.ofNat 0) (v := Int32.ofNat (TL b n)[i].2.2.2.1) z5.2.1 hrm (by rw [CA_len]; omega)
        have hP9 : kP t9 2 1 = some p := q2.1
        obtain ⟨t10, u1, u2, u3, u4⟩ := c_emit (N := N) (X := X) (k := Int32.ofNat 19) (a := Int32.ofNat 317) (v := Int32.ofNat (TL b n)[i].2.2.2.1) q2 (q3.rm hrm) (by rw [List.length_append, CA_len, List.length_singleton]; omega)
        rw [List.append_assoc] at u2
        obtain ⟨y1, y2⟩ := z5.cEm (c := (4, 0, 0, 0, Int32.ofNat (TL b n)[i].2.2.2.1, 0, 0)) (t' := t10) (cu' := 0 :: cu) (D' := D) (Or.inr (Or.inl (Nat.zero_le _))) rfl (by unfold okI; simp) u2 (q3.tr u3) (u4.trans q4) (by omega) (Or.inl (by unfold rlen xlen; simp))
        refine Or.inl ⟨t10, s8, k8 + 1, i8, seg8 ++ [(4, 0, 0, 0, Int32.ofNat (TL b n)[i].2.2.2.1, 0, 0)], code ++ seg8, vs8, cl8, [], some ((TL b n)[i].1, (TL b n)[i].2.2.2.1), ?_, by omega, by omega, fun f => ?_, ?_, ?_, hoA, fun z hz => (by cases hz), fun hi8 => ⟨z6 hi8, ?_⟩, hall.tr (z7.tr y2)⟩
        · show cf_188_77 N X (cf_S0 N X (F + 4)) (Int32.ofNat (TL b n)[i].2.2.2.1) t8 = _
          unfold cf_188_77 cf_188_87 cf_188_101 cf_188_109
          simp (disch := omega) only [ev_S, ev_C, ↓reduceIte, Nat.reduceEqDiff, Nat.reduceLeDiff, Nat.reduceAdd, Nat.reduceMul, Nat.reduceSub, reduceCtorEq, l32_0, l32_1, l32_2, l32_3, l32_4, l32_5, l32_6, l32_7, l32_8, l32_9, l32_10, l32_11, l32_12, l32_13, l32_14, l32_15, l32_16, l32_17, l32_18, l32_19, l32_20, l32_21, l32_22, l32_23, l32_24, l32_25, l32_26, l32_27, l32_28, l32_29, l32_33, l32_40, l32_41, l32_44, l32_45, l32_59, l32_61, l32_91, l32_93, l32_123, l32_125, hP8, hp, q1, hP9, l32_317, u1]
        · rw [← Nat.add_assoc, hLL]
          exact z4 f
        · show PE b n p e i8 op D (code ++ (seg8 ++ [(4, 0, 0, 0, Int32.ofNat (TL b n)[i].2.2.2.1, 0, 0)])) (code ++ seg8) vs8 cl8 (W ++ [] ++ [(2, (TL b n)[i].1, 0, (TL b n)[i].2.2.2.1, 0, 0)]) (0 :: cu) fs t10 s8
          rw [List.append_nil, ← List.append_assoc]
          exact y1
        · show code ++ (seg8 ++ [(4, 0, 0, 0, Int32.ofNat (TL b n)[i].2.2.2.1, 0, 0)]) = (code ++ seg8) ++ [(if (TL b n)[i].1 = 45 then 3 else 4, 0, 0, 0, Int32.ofNat (TL b n)[i].2.2.2.1, 0, 0)] ++ []
          rw [if_neg c45, List.append_nil, ← List.append_assoc]
        · rcases lv_le (TL b n)[i8].1 with y | y
          · exact Or.inl y
          · exact Or.inr (Or.inl y)
      · refine Or.inr ⟨t8, s8, k8 + 1, by rw [z1]; rfl, by omega, fun f => ?_, z4, hall.pre z5⟩
        rw [← Nat.add_assoc, hLL]
        exact z3 f
  · have k1 : ¬ ck (TL b n)[i] = 45 := fun y => c (Or.inl (hck1.mp y))
    have k2 : ¬ ck (TL b n)[i] = 33 := fun y => c (Or.inr (hck2.mp y))
    have hC : cf_188 N X (cf_S0 N X (F + 4)) t = ko_call 5 (cf_189 N X (cf_S0 N X (F + 3)) t) (fun g1 v1 => co_v v1 (some (g1, .inl none))) := by
      unfold cf_188 cf_188_0 cf_188_7 cf_188_15 cf_188_60
      simp (disch := omega) only [ev_S, ev_C, ↓reduceIte, Nat.reduceEqDiff, Nat.reduceLeDiff, Nat.reduceAdd, Nat.reduceMul, Nat.reduceSub, reduceCtorEq, l32_0, l32_1, l32_2, l32_3, l32_4, l32_5, l32_6, l32_7, l32_8, l32_9, l32_10, l32_11, l32_12, l32_13, l32_14, l32_15, l32_16, l32_17, l32_18, l32_19, l32_20, l32_21, l32_22, l32_23, l32_24, l32_25, l32_26, l32_27, l32_28, l32_29, l32_33, l32_40, l32_41, l32_44, l32_45, l32_59, l32_61, l32_91, l32_93, l32_123, l32_125, kn, k1, k2, pn]
      rfl
    rw [hC]
    rcases p_idx (al := al) hN hX hY hS0 hS1 hS2 hS3 h hwn hD1 hF (by omega) ha (fun _ y => absurd y c) with ⟨t8, s8, k8, i8, seg8, vs8, cl8, z1, z2, z3, z4, z5, z6, z7⟩ | ⟨t8, s8, k8, z1, z2, z3, z4, z5⟩
    · refine Or.inl ⟨t8, s8, k8, i8, seg8, code ++ seg8, vs8, cl8, [], none, by rw [z1]; rfl, z2, z3, z4, ?_, ?_, trivial, fun z hz => (by cases hz), fun hi8 => ⟨z6 hi8, ?_⟩, z7⟩
      · show PE b n p e i8 op D (code ++ seg8) (code ++ seg8) vs8 cl8 (W ++ [] ++ []) (0 :: cu) fs t8 s8
        rw [List.append_nil, List.append_nil]
        exact z5
      · show code ++ seg8 = code ++ seg8 ++ [] ++ []
        rw [List.append_nil, List.append_nil]
      · rcases lv_le (TL b n)[i8].1 with y | y
        · exact Or.inl y
        · exact Or.inr (Or.inl y)
    · exact Or.inr ⟨t8, s8, k8, by rw [z1]; rfl, z2, z3, z4, z5⟩
end UNA
