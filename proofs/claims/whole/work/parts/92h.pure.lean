/-! ===== PURE: atoms and indices ===== -/
section IDX
variable {N : Nat} {X : Nat → Option zz_C} {t t' : cS} {s s' s0 s1 s2 : mS} {b : Nat → Nat} {n p e i i0 op D D' : Nat} {code code1 code2 fl : List Ins} {vs : List (List Nat)} {cl : List Cn} {W W' : List Wt} {cu cu' : List Nat} {fs : Nat × Nat × Nat} {al : Int32} {rk : Nat → List Value → cS → kO} {Z : List (Nat × Nat)} {ah : Option (Nat × Nat)}
theorem RS.up {R : kO} (hR : RS N b n p e i op D code W cu fs al t s R) : RS N b n p e i op D code W cu fs al t s (ko_call 5 R (fun g1 v1 => co_v v1 (some (g1, .inl none)))) := by
  rcases hR with ⟨t8, s8, k8, i8, seg8, vs8, cl8, z1, z2, z3, z4, z5, z6⟩ | ⟨t8, s8, k8, z1, z2, z3, z4, z5⟩
  · exact Or.inl ⟨t8, s8, k8, i8, seg8, vs8, cl8, by rw [z1]; rfl, z2, z3, z4, z5, z6⟩
  · exact Or.inr ⟨t8, s8, k8, by rw [z1]; rfl, z2, z3, z4, z5⟩
theorem RS.dn {R : kO} (hR : RS N b n p e i op (D + 1) code W cu fs al t s R) : RS N b n p e i op D code W cu fs al t s R := by
  rcases hR with ⟨t8, s8, k8, i8, seg8, vs8, cl8, z1, z2, z3, z4, z5, z6⟩ | hR
  · exact Or.inl ⟨t8, s8, k8, i8, seg8, vs8, cl8, z1, z2, z3, z4, PE.dn z5 (Nat.le_succ _), z6⟩
  · exact Or.inr hR
/-- an atom -/
theorem p_atom {F : Nat} (hN : 170000 ≤ N) (hX : oX N X) (hY : oY X) (hS0 : SX N X b n p e F) (hS1 : SX N X b n p e (F + 1)) (hS2 : SX N X b n p e (F + 2)) (h : PE b n p e i op D code code vs cl W cu fs t s) (hwn : rWn s) (hD1 : 1 ≤ D) (hF : 10 * (10 - op) ≤ F) (hWl : W.length ≤ 6 * op + 5) (hk : ∀ hi : i < (TL b n).length, (TL b n)[i].1 = 45 ∨ (TL b n)[i].1 = 33 → mf_283 N (Int32.ofNat 2) s = some (s, some (.int (Int32.ofNat 1)))) : RS N b n p e i op D code W cu fs al t s (cf_190 N X (cf_S0 N X (F + 2)) t) := by
  obtain ⟨hi, e5, e6, e7, hkk, ho, he, hlt, hll⟩ := h.1.now
  have hk := hk hi
  by_cases c2 : (TL b n)[i].1 = 2
  · exact p_num hN h hD1 (fun _ => c2)
  · by_cases c3 : (TL b n)[i].1 = 3
    · obtain ⟨hj, hj2⟩ := TL_next hi (by omega)
      cases hw : wix (TL b n)[i].2.2.1 with
      | none =>
        have k3 : ck (TL b n)[i] = 3 := ck3.mpr ⟨c3, hw⟩
        by_cases c4 : (TL b n)[i + 1].1 = 40
        · have hnk : ck (TL b n)[i + 1] = 40 := (ck_sg (by decide)).mpr c4
          have nx := c_nxt (N := N) (X := X) h.1 hj
          rw [hnk] at nx
          rw [k3] at e5
          have hC : cf_190 N X (cf_S0 N X (F + 2)) t = ko_call 5 (cf_191 N X (cf_S0 N X (F + 1)) t) (fun g1 v1 => co_v v1 (some (g1, .inl none))) := by
            unfold cf_190 cf_190_0 cf_190_7 cf_190_15
            simp (disch := omega) only [ev_S, ev_C, ↓reduceIte, Nat.reduceEqDiff, Nat.reduceLeDiff, Nat.reduceAdd, Nat.reduceMul, Nat.reduceSub, reduceCtorEq, l32_0, l32_1, l32_2, l32_3, l32_4, l32_5, l32_6, l32_7, l32_8, l32_9, l32_10, l32_11, l32_12, l32_13, l32_14, l32_15, l32_16, l32_17, l32_18, l32_19, l32_20, l32_21, l32_22, l32_23, l32_24, l32_25, l32_26, l32_27, l32_28, l32_29, l32_33, l32_40, l32_41, l32_44, l32_45, l32_59, l32_61, l32_91, l32_93, l32_123, l32_125, c_placeNow, c_kindNow, e5, e6]
            unfold cf_190_84 cf_190_91 cf_190_96 cf_190_100 cf_190_176
            simp (disch := omega) only [ev_S, ev_C, ↓reduceIte, Nat.reduceEqDiff, Nat.reduceLeDiff, Nat.reduceAdd, Nat.reduceMul, Nat.reduceSub, reduceCtorEq, l32_0, l32_1, l32_2, l32_3, l32_4, l32_5, l32_6, l32_7, l32_8, l32_9, l32_10, l32_11, l32_12, l32_13, l32_14, l32_15, l32_16, l32_17, l32_18, l32_19, l32_20, l32_21, l32_22, l32_23, l32_24, l32_25, l32_26, l32_27, l32_28, l32_29, l32_33, l32_40, l32_41, l32_44, l32_45, l32_59, l32_61, l32_91, l32_93, l32_123, l32_125, nx]
            rfl
          rw [hC]
          exact (p_call hN hS0 h hwn hF hWl (fun _ => ⟨k3, fun _ => c4⟩)).dn.up
        · exact p_get hN h (fun _ => ⟨k3, fun _ => c4⟩)
      | some w =>
        obtain ⟨w1, w2, w3, w4⟩ := c_word (N := N) (X := X) hX h.1 (fun _ => ⟨c3, hw⟩)
        have hC : cf_190 N X (cf_S0 N X (F + 2)) t = ko_call 5 (cf_192 N X (cf_S0 N X (F + 1)) (zz_out + (w + 1)) t) (fun g1 v1 => co_v v1 (some (g1, .inl none))) := by
          unfold cf_190 cf_190_0 cf_190_7 cf_190_15
          simp (disch := omega) only [ev_S, ev_C, ↓reduceIte, Nat.reduceEqDiff, Nat.reduceLeDiff, Nat.reduceAdd, Nat.reduceMul, Nat.reduceSub, reduceCtorEq, l32_0, l32_1, l32_2, l32_3, l32_4, l32_5, l32_6, l32_7, l32_8, l32_9, l32_10, l32_11, l32_12, l32_13, l32_14, l32_15, l32_16, l32_17, l32_18, l32_19, l32_20, l32_21, l32_22, l32_23, l32_24, l32_25, l32_26, l32_27, l32_28, l32_29, l32_33, l32_40, l32_41, l32_44, l32_45, l32_59, l32_61, l32_91, l32_93, l32_123, l32_125, c_placeNow, c_kindNow, w2, e6]
          unfold cf_190_120 cf_190_125 cf_190_128 cf_190_176
          simp (disch := omega) only [ev_S, ev_C, ↓reduceIte, Nat.reduceEqDiff, Nat.reduceLeDiff, Nat.reduceAdd, Nat.reduceMul, Nat.reduceSub, reduceCtorEq, l32_0, l32_1, l32_2, l32_3, l32_4, l32_5, l32_6, l32_7, l32_8, l32_9, l32_10, l32_11, l32_12, l32_13, l32_14, l32_15, l32_16, l32_17, l32_18, l32_19, l32_20, l32_21, l32_22, l32_23, l32_24, l32_25, l32_26, l32_27, l32_28, l32_29, l32_33, l32_40, l32_41, l32_44, l32_45, l32_59, l32_61, l32_91, l32_93, l32_123, l32_125, w1]
          rfl
        rw [hC]
        by_cases d1 : w < 11
        · exact (p_nob hN hX hY h (fun _ => ⟨c3, hw⟩) d1).up
        · by_cases d2 : w < 39
          · exact (p_blt hN hX hY hS0 h hwn hF hWl (fun _ => ⟨c3, hw⟩) ⟨by omega, d2⟩).dn.up
          · obtain ⟨r, hr, rfl⟩ : ∃ r, (r = 1 ∨ r = 2) ∧ w = 38 + r := ⟨w - 38, by omega, by omega⟩
            exact (p_over hN hX hY hS0 h hwn hF hWl hr (fun _ => ⟨c3, hw⟩)).dn.up
    · by_cases c4 : (TL b n)[i].1 = 40
      · exact p_group hN hS2 h hwn hD1 (by omega) hWl (fun _ => c4)
      · by_cases c5 : (TL b n)[i].1 = 91
        · exact p_lit hN hS1 h hwn hD1 (by omega) hWl (fun _ => c5)
        · exact p_none hN h (fun _ => ⟨c2, c3, c4, c5, hk⟩)
/-- indices behind -/
theorem p_idxL {F : Nat} (hN : 170000 ≤ N) (hSX : SX N X b n p e F) (hF : 10 * (10 - op) ≤ F) (hWl : W.length ≤ 6 * op + 5) (ha : al = 0 ∨ ¬ W = []) : ∀ (d i : Nat) (code : List Ins) (vs : List (List Nat)) (cl : List Cn) (t : cS) (s : mS) (m Q : Nat), (TL b n).length ≤ i + d → PE b n p e i op D code code vs cl W (0 :: cu) fs t s → rWn s → m ≤ i → d < Q → 1 ≤ D → (∃ t' s' k i' seg vs' cl', cf_189_L1 N X (cf_S0 N X F) Q 0 (Int32.ofNat m) t = some (t', .inl none) ∧ i ≤ i' ∧ k + i ≤ i' ∧ (∀ f, LL N (f + k) al (Int32.ofNat 1) s = LL N f al (Int32.ofNat 1) s') ∧ PE b n p e i' op D (code ++ seg) (code ++ seg) vs' cl' W (0 :: cu) fs t' s' ∧ (∀ hi : i' < (TL b n).length, ¬ (TL b n)[i'].1 = 91) ∧ FR p e t t' s s') ∨ FLT N b n p e i al (Int32.ofNat 1) t s (cf_189_L1 N X (cf_S0 N X F) Q 0 (Int32.ofNat m) t) := by
  have eL : ∀ Q x1 t, cf_189_L1 N X (cf_S0 N X F) (Q + 1) 0 x1 t = cf_189_6 N X (cf_S0 N X F) (cf_189_L1 N X (cf_S0 N X F) Q) x1 t := fun _ _ _ => rfl
  intro d
  induction d with
  | zero =>
    intro i code vs cl t s m Q hd h
    obtain ⟨hi, _⟩ := h.1.now
    omega
  | succ d ih =>
    intro i code vs cl t s m Q hd h hwn hmi hdQ hD1
    obtain ⟨Q, rfl⟩ : ∃ Q', Q = Q' + 1 := ⟨Q - 1, by omega⟩
    obtain ⟨hi, e5, e6, e7, hkk, ho, he, hlt, hll⟩ := h.1.now
    have hop := h.1.2.2.2.1
    have h9 : s.1 9 = Int32.ofNat 0 := h.1.2.2.2.2.2.2.2.2.2
    have cnt : cf_41 N X t = some (t, .inl (some (.int (Int32.ofNat (TL b n).length)))) := by rw [c_count, h.1.cnt]
    have kn : cf_42 N X t = some (t, .inl (some (.int (Int32.ofNat (ck (TL b n)[i]))))) := by rw [c_kindNow, e5]
    have pn : cf_243 N X t = some (t, .inl (some (.int (Int32.ofNat (TL b n)[i].2.2.2.1)))) := by rw [c_placeNow, e6]
    have hck : ck (TL b n)[i] = 91 ↔ (TL b n)[i].1 = 91 := ck_sg (by decide)
    by_cases z : (TL b n)[i].1 = 91
    · have k1 := hck.mpr z
      have h5 := h.2.2.2.2.1
      have hne44 : al = 0 ∨ ¬ s.1 44 = Int32.ofNat 0 := by
        rcases ha with y | y
        · exact Or.inl y
        · refine Or.inr fun x => ?_
          rw [h5.1] at x
          have l1 : 0 < W.length := List.length_pos_iff.mpr y
          have l2 := h5.2.1
          rw [ev_eq (by omega) (by omega)] at x
          omega
      have g1 := r_isSign (N := N) (s := s) (c := 91) hkk (by decide) (by decide)
      rw [if_pos z] at g1
      have x6 : s.1 6 = Int32.ofNat (TL b n)[i].2.2.2.1 := hkk.1
      have hL0 : ∀ f, LL N (f + 1) al (Int32.ofNat 1) s = mo_bv (mf_268 N (Int32.ofNat 91) s) (fun s1 => mo_bv (mf_281 N (Int32.ofNat 4) (Int32.ofNat 0) (Int32.ofNat (TL b n)[i].2.2.2.1) s1) (fun s2 => LL N f al (Int32.ofNat 0) s2)) := fun f => by
        rw [LL_1 h9 hne44]
        unfold mf_285_38 mf_285_44 mf_285_47 mf_285_58 mf_285_65
        simp (disch := omega) only [ev_S, ev_P, ↓reduceIte, Nat.reduceEqDiff, Nat.reduceLeDiff, Nat.reduceAdd, Nat.reduceMul, Nat.reduceSub, reduceCtorEq, l32_0, l32_1, l32_2, l32_3, l32_4, l32_5, l32_6, l32_7, l32_8, l32_9, l32_10, l32_11, l32_12, l32_13, l32_14, l32_15, l32_16, l32_17, l32_18, l32_19, l32_20, l32_21, l32_22, l32_23, l32_24, l32_25, l32_26, l32_27, l32_28, l32_29, l32_33, l32_40, l32_41, l32_44, l32_45, l32_59, l32_61, l32_91, l32_93, l32_123, l32_125, g1, x6]
      have hC : cf_189_L1 N X (cf_S0 N X F) (Q + 1) 0 (Int32.ofNat m) t = ko_call 5 (cf_201 N X (Int32.ofNat 91) t) (fun g1 v1 => co_v v1 (cf_189_43 N X (cf_S0 N X F) (cf_189_L1 N X (cf_S0 N X F) Q) (Int32.ofNat m) (Int32.ofNat (TL b n)[i].2.2.2.1) g1)) := by
        rw [eL]
        unfold cf_189_6 cf_189_14 cf_189_17 cf_189_24 cf_189_29 cf_189_36
        simp (disch := omega) only [ev_S, ev_C, ↓reduceIte, Nat.reduceEqDiff, Nat.reduceLeDiff, Nat.reduceAdd, Nat.reduceMul, Nat.reduceSub, reduceCtorEq, l32_0, l32_1, l32_2, l32_3, l32_4, l32_5, l32_6, l32_7, l32_8, l32_9, l32_10, l32_11, l32_12, l32_13, l32_14, l32_15, l32_16, l32_17, l32_18, l32_19, l32_20, l32_21, l32_22, l32_23, l32_24, l32_25, l32_26, l32_27, l32_28, l32_29, l32_33, l32_40, l32_41, l32_44, l32_45, l32_59, l32_61, l32_91, l32_93, l32_123, l32_125, cnt, kn, k1, pn]
      rw [hC]
      rcases h.opn (N := N) (X := X) (c := 91) hN (by omega) with ⟨t1, s1, a1, a2, a3, a4, a5, a6⟩ | ⟨t1, s1, a1, a2, a3, a4, a5⟩
      · obtain ⟨s2, b1, b2, b3⟩ := r_wait (N := N) (k := 4) (a := 0) (p := (TL b n)[i].2.2.2.1) a5.2.2.2.2.1 (by omega) (by decide)
        obtain ⟨c1, c2⟩ := a5.wt b2 b3
        have hLL : ∀ f, LL N (f + 1) al (Int32.ofNat 1) s = LL N f al (Int32.ofNat 0) s2 := fun f => by
          rw [hL0, a2]
          show mo_bv (mf_281 N (Int32.ofNat 4) (Int32.ofNat 0) (Int32.ofNat (TL b n)[i].2.2.2.1) s1) _ = _
          rw [b1]
          rfl
        have w2 : rWn s2 := hwn.kp (a6.tr c2).2
        rw [a1]
        show _ ∨ FLT N b n p e i al (Int32.ofNat 1) t s (cf_189_43 N X (cf_S0 N X F) (cf_189_L1 N X (cf_S0 N X F) Q) (Int32.ofNat m) (Int32.ofNat (TL b n)[i].2.2.2.1) t1)
        have hC2 : cf_189_43 N X (cf_S0 N X F) (cf_189_L1 N X (cf_S0 N X F) Q) (Int32.ofNat m) (Int32.ofNat (TL b n)[i].2.2.2.1) t1 = ko_call 5 (cf_S0 N X F 186 [.int (Int32.ofNat 0)] t1) (fun g1 v1 => co_v v1 (cf_189_48 N X (cf_S0 N X F) (cf_189_L1 N X (cf_S0 N X F) Q) (Int32.ofNat m) (Int32.ofNat (TL b n)[i].2.2.2.1) g1)) := rfl
        have hne : al = 0 ∨ ¬ (W ++ [(4, 0, 0, (TL b n)[i].2.2.2.1, (0 : Int64), 0)]) = [] := Or.inr (by simp)
        have hHW : HW 0 (W ++ [(4, 0, 0, (TL b n)[i].2.2.2.1, 0, 0)]) := Or.inr ⟨W, _, rfl, Or.inl (by show 3 ≤ 4; omega)⟩
        show (∃ t' s' k i' seg vs' cl', cf_189_43 N X (cf_S0 N X F) (cf_189_L1 N X (cf_S0 N X F) Q) (Int32.ofNat m) (Int32.ofNat (TL b n)[i].2.2.2.1) t1 = some (t', .inl none) ∧ _) ∨ _
        rw [hC2]
        rcases hSX 0 (i + 1) (op + 1) (D + 1) code vs cl (W ++ [(4, 0, 0, (TL b n)[i].2.2.2.1, 0, 0)]) (0 :: cu) fs al t1 s2 (by decide) c1 w2 hHW (by rw [List.length_append, List.length_singleton]; omega) hne (by omega) (by omega) with ⟨t4, s4, k4, i4, seg4, code4, vs4, cl4, Z4, ah4, x1, x2, x3, x4, x5, x6, x7, x8, x9, x10⟩ | ⟨t4, s4, k4, x1, x2, x3, x4, x5⟩
        · obtain ⟨s5, d1, d2, d3⟩ := PE.flu (N := N) (al := al) hN x5 x6 x7 (fun z hh => ⟨(x8 z hh).1, (x8 z hh).2.2⟩) x9 hHW hne
          obtain ⟨s6, g1, g2, g3, g4⟩ := PE.e1g (N := N) d2 (Or.inr rfl) (by show 0 < 2000; omega)
          have hC3 : ∀ f, LL N (f + 1) al (Int32.ofNat 1) s4 = mo_bi (mo_bv (mf_267 N (Int32.ofNat 93) s6) (fun s2 => mf_288_67 N (Int32.ofNat W.length) (Int32.ofNat 4) s2)) (fun s1 y => LL N f al y s1) := fun f => by
            rw [d1 f, L215 d2.2.2.2.2.1, g4]
            rfl
          have hall : FR p e t t4 s s6 := (a6.tr c2).tr (x10.tr (d3.tr g2))
          obtain ⟨hi4, -⟩ := x5.1.now
          have hW8 : W.length < 80 := by omega
          rw [x1]
          show (∃ t' s' k i' seg vs' cl', cf_189_48 N X (cf_S0 N X F) (cf_189_L1 N X (cf_S0 N X F) Q) (Int32.ofNat m) (Int32.ofNat (TL b n)[i].2.2.2.1) t4 = some (t', .inl none) ∧ _) ∨ FLT N b n p e i al (Int32.ofNat 1) t s (cf_189_48 N X (cf_S0 N X F) (cf_189_L1 N X (cf_S0 N X F) Q) (Int32.ofNat m) (Int32.ofNat (TL b n)[i].2.2.2.1) t4)
          have hl4 : s6.2.2.1 41 W.length = Int32.ofNat (TL b n)[i].2.2.2.1 := g3.2.2.2.1
          rcases g1.sgn (N := N) (X := X) (c := 93) hN (by omega) (fun _ => by omega) with ⟨t7, s7, y1, y2, y3, y4, y5, y6⟩ | ⟨t7, s7, y1, y2, y3, y4, y5⟩
          · rw [if_pos (by omega), Nat.add_sub_cancel] at y4
            have m4 : s7.2.2.1 41 W.length = Int32.ofNat (TL b n)[i].2.2.2.1 := by rw [y6.2.2.1 41 (fun z => z)]; exact hl4
            have hP : kP t7 2 1 = some p := y4.2.1.1
            have hp : (p = 12 ∨ p = 21) = True := eq_true y4.2.1.2.1
            obtain ⟨t8, s8, q1, q2, q3, q4, q5⟩ := y4.bo (N := N) (X := X) (c := (7, 0, 0, 0, Int32.ofNat (TL b n)[i].2.2.2.1, 0, 0)) (cu' := 0 :: cu) (D' := D) (k := Int32.ofNat 21) (a := Int32.ofNat 0) (v := Int32.ofNat (TL b n)[i].2.2.2.1) (x1 := Int32.ofNat 7) (x2 := Int32.ofNat 0) (x3 := Int32.ofNat 0) (x4 := Int32.ofNat (TL b n)[i].2.2.2.1) rfl rfl (Or.inr (Or.inl (Nat.zero_le _))) rfl (by unfold okI; simp) (by omega) (Or.inl (by unfold rlen xlen; simp))
            have w8 : rWn s8 := hwn.kp (hall.tr (y5.tr q4)).2
            have hT : mf_288_67 N (Int32.ofNat W.length) (Int32.ofNat 4) s7 = some (s8, some (.int (Int32.ofNat 1))) := by
              unfold mf_288_67 mf_288_72 mf_288_86 mf_288_87
              simp (disch := omega) only [ev_S, ev_P, ↓reduceIte, Nat.reduceEqDiff, Nat.reduceLeDiff, Nat.reduceAdd, Nat.reduceMul, Nat.reduceSub, reduceCtorEq, l32_0, l32_1, l32_2, l32_3, l32_4, l32_5, l32_6, l32_7, l32_8, l32_9, l32_10, l32_11, l32_12, l32_13, l32_14, l32_15, l32_16, l32_17, l32_18, l32_19, l32_20, l32_21, l32_22, l32_23, l32_24, l32_25, l32_26, l32_27, l32_28, l32_29, l32_33, l32_40, l32_41, l32_44, l32_45, l32_59, l32_61, l32_91, l32_93, l32_123, l32_125, m4, q2]
            have hL4 : ∀ f, LL N (f + (k4 + 2)) al (Int32.ofNat 1) s = LL N f al (Int32.ofNat 1) s8 := fun f => by
              rw [show f + (k4 + 2) = (f + 1 + k4) + 1 by omega, hLL, x4, hC3, y2]
              show mo_bi (mf_288_67 N (Int32.ofNat W.length) (Int32.ofNat 4) s7) _ = _
              rw [hT]
              rfl
            have hC4 : cf_189_48 N X (cf_S0 N X F) (cf_189_L1 N X (cf_S0 N X F) Q) (Int32.ofNat m) (Int32.ofNat (TL b n)[i].2.2.2.1) t4 = cf_189_L1 N X (cf_S0 N X F) Q 0 (Int32.ofNat (m + 1)) t8 := by
              unfold cf_189_48 cf_189_54 cf_189_65
              simp (disch := omega) only [ev_S, ev_C, ↓reduceIte, Nat.reduceEqDiff, Nat.reduceLeDiff, Nat.reduceAdd, Nat.reduceMul, Nat.reduceSub, reduceCtorEq, l32_0, l32_1, l32_2, l32_3, l32_4, l32_5, l32_6, l32_7, l32_8, l32_9, l32_10, l32_11, l32_12, l32_13, l32_14, l32_15, l32_16, l32_17, l32_18, l32_19, l32_20, l32_21, l32_22, l32_23, l32_24, l32_25, l32_26, l32_27, l32_28, l32_29, l32_33, l32_40, l32_41, l32_44, l32_45, l32_59, l32_61, l32_91, l32_93, l32_123, l32_125, y1, hP, hp, q1]
            rw [hC4]
            rcases ih (i4 + 1) (code ++ seg4 ++ [_]) vs4 cl4 t8 s8 (m + 1) Q (by omega) q3 w8 (by omega) (by omega) hD1 with ⟨t9, s9, k9, i9, seg9, vs9, cl9, z1, z2, z3, z4, z5, z6, z7⟩ | ⟨t9, s9, k9, z1, z2, z3, z4, z5⟩
            · refine Or.inl ⟨t9, s9, k9 + (k4 + 2), i9, seg4 ++ [_] ++ seg9, vs9, cl9, z1, by omega, by omega, fun f => ?_, by rw [← List.append_assoc, ← List.append_assoc]; exact z5, z6, (hall.tr (y5.tr q4)).tr z7⟩
              rw [← Nat.add_assoc, hL4]
              exact z4 f
            · refine Or.inr ⟨t9, s9, k9 + (k4 + 2), z1, by omega, fun f => ?_, z4, (hall.tr (y5.tr q4)).pre z5⟩
              rw [← Nat.add_assoc, hL4]
              exact z3 f
          · obtain ⟨x, y, v1, v2, v3, v4, v5, v6, v7⟩ := y3
            have m4 : s7.2.2.1 41 W.length = Int32.ofNat (TL b n)[i].2.2.2.1 := by rw [y5.2.2.1 41 (fun z => z)]; exact hl4
            have hcr := g1.2.2.1.keep (y5.1 12 (by omega)) (y5.1 28 (by omega)) (fun q _ => y5.2.2.1 q (fun z => z))
            have hrl := g1.rle
            obtain ⟨s8, c1, c2, c3⟩ := r_order (N := N) (x1 := Int32.ofNat 7) (x2 := Int32.ofNat 0) (x3 := Int32.ofNat 0) (x4 := Int32.ofNat (TL b n)[i].2.2.2.1) hcr (by rw [RA_len]; omega)
            refine Or.inr ⟨t7, s8, k4 + 3, ?_, by omega, fun f => ?_, pF.post ⟨x, y, v1, v2, v3, v4, v5, v6, v7⟩ (c3.1 9 (by decide)) (c3.1 10 (by decide)), hall.pre (y4.post (fO.Q c3) (c2.oB (by rw [List.length_append, RA_len, List.length_singleton]; omega)))⟩
            · unfold cf_189_48
              simp (disch := omega) only [ev_S, ev_C, ↓reduceIte, Nat.reduceEqDiff, Nat.reduceLeDiff, Nat.reduceAdd, Nat.reduceMul, Nat.reduceSub, reduceCtorEq, l32_0, l32_1, l32_2, l32_3, l32_4, l32_5, l32_6, l32_7, l32_8, l32_9, l32_10, l32_11, l32_12, l32_13, l32_14, l32_15, l32_16, l32_17, l32_18, l32_19, l32_20, l32_21, l32_22, l32_23, l32_24, l32_25, l32_26, l32_27, l32_28, l32_29, l32_33, l32_40, l32_41, l32_44, l32_45, l32_59, l32_61, l32_91, l32_93, l32_123, l32_125, y1]
              rfl
            · have hT : mf_288_67 N (Int32.ofNat W.length) (Int32.ofNat 4) s7 = some (s8, some (.int (Int32.ofNat 1))) := by
                unfold mf_288_67 mf_288_72 mf_288_86 mf_288_87
                simp (disch := omega) only [ev_S, ev_P, ↓reduceIte, Nat.reduceEqDiff, Nat.reduceLeDiff, Nat.reduceAdd, Nat.reduceMul, Nat.reduceSub, reduceCtorEq, l32_0, l32_1, l32_2, l32_3, l32_4, l32_5, l32_6, l32_7, l32_8, l32_9, l32_10, l32_11, l32_12, l32_13, l32_14, l32_15, l32_16, l32_17, l32_18, l32_19, l32_20, l32_21, l32_22, l32_23, l32_24, l32_25, l32_26, l32_27, l32_28, l32_29, l32_33, l32_40, l32_41, l32_44, l32_45, l32_59, l32_61, l32_91, l32_93, l32_123, l32_125, m4, c1]
              rw [show f + (k4 + 3) = (f + 2 + k4) + 1 by omega, hLL, x4, show f + 2 = (f + 1) + 1 by omega, hC3, y2]
              show mo_bi (mf_288_67 N (Int32.ofNat W.length) (Int32.ofNat 4) s7) _ = _
              rw [hT]
              exact LL_f (N := N) ((c3.1 9 (by decide)).trans v6) ⟨v1, v2⟩
        · refine Or.inr ⟨t4, s4, k4 + 1, by rw [x1]; rfl, by omega, fun f => ?_, x4, (a6.tr c2).pre x5⟩
          rw [← Nat.add_assoc, hLL]
          exact x3 f
      · obtain ⟨x, y, v1, v2, v3, v4, v5, v6, v7⟩ := a3
        obtain ⟨s2, b1, b2, b3, b4, b5⟩ := r_waitF (N := N) (k := 4) (a := 0) (q := (TL b n)[i].2.2.2.1) h a5 (by omega) (by decide)
        refine Or.inr ⟨t1, s2, 2, by rw [a1]; rfl, by omega, fun f => ?_, pF.post ⟨x, y, v1, v2, v3, v4, v5, v6, v7⟩ b3 b4, a4.post b2 (a4.2.2.1.kp b5)⟩
        rw [show f + 2 = (f + 1) + 1 by omega, hL0, a2]
        show mo_bv (mf_281 N (Int32.ofNat 4) (Int32.ofNat 0) (Int32.ofNat (TL b n)[i].2.2.2.1) s1) _ = _
        rw [b1]
        exact LL_f (N := N) (b3.trans v6) ⟨v1, v2⟩
    · have k1 : ¬ ck (TL b n)[i] = 91 := fun y => z (hck.mp y)
      refine Or.inl ⟨t, s, 0, i, [], vs, cl, ?_, by omega, by omega, fun f => rfl, by rw [List.append_nil]; exact h, fun _ => z, FR.rf⟩
      rw [eL]
      unfold cf_189_6 cf_189_14 cf_189_17 cf_189_24 cf_189_72
      simp (disch := omega) only [ev_S, ev_C, ↓reduceIte, Nat.reduceEqDiff, Nat.reduceLeDiff, Nat.reduceAdd, Nat.reduceMul, Nat.reduceSub, reduceCtorEq, l32_0, l32_1, l32_2, l32_3, l32_4, l32_5, l32_6, l32_7, l32_8, l32_9, l32_10, l32_11, l32_12, l32_13, l32_14, l32_15, l32_16, l32_17, l32_18, l32_19, l32_20, l32_21, l32_22, l32_23, l32_24, l32_25, l32_26, l32_27, l32_28, l32_29, l32_33, l32_40, l32_41, l32_44, l32_45, l32_59, l32_61, l32_91, l32_93, l32_123, l32_125, cnt, kn, k1]
end IDX
