/-! ===== PURE: expressions are read alike ===== -/
section EXP
variable {N : Nat} {X : Nat → Option zz_C} {t t' : cS} {s s' s0 s1 s2 : mS} {b : Nat → Nat} {n p e i i0 op D D' : Nat} {code code1 code2 fl : List Ins} {vs : List (List Nat)} {cl : List Cn} {W W' : List Wt} {cu cu' : List Nat} {fs : Nat × Nat × Nat} {al : Int32} {rk : Nat → List Value → cS → kO} {Z : List (Nat × Nat)} {ah : Option (Nat × Nat)}
theorem HW.nA {l : Nat} (hs : HW l W) : ∀ W' w, W ++ Z.map bt = W' ++ [w] → ¬ w.1 = 2 := by
  intro W' w hw hw2
  rcases List.eq_nil_or_concat Z with c | ⟨Z', z, c⟩
  · rw [c] at hw
    have hw : W ++ [] = W' ++ [w] := hw
    rw [List.append_nil] at hw
    rcases hs with z | ⟨W1, w1, z1, z2⟩
    · rw [z] at hw
      simp at hw
    · rw [z1] at hw
      have hq := (List.append_inj' hw rfl).2
      have hq2 : w1 = w := by injection hq
      rw [hq2] at z2
      rcases z2 with z2 | ⟨z, z2, z3, z4⟩
      · omega
      · rw [z2] at hw2
        exact absurd (show (1 : Nat) = 2 from hw2) (by decide)
  · rw [List.concat_eq_append] at c
    rw [c, List.map_append, ← List.append_assoc] at hw
    have hq := (List.append_inj' hw rfl).2
    have hq2 : bt z = w := by injection hq
    rw [← hq2] at hw2
    exact absurd (show (1 : Nat) = 2 from hw2) (by decide)
theorem okI_tw {nv : Nat} {z : Nat × Nat} (h1 : okS z.1) (h2 : lv z.1 ≤ 3) : okI nv (twI z) := by
  unfold okI twI
  simp only [Nat.reduceEqDiff, false_implies, or_self, true_and, and_true, forall_const, true_implies]
  exact ⟨h1, h2⟩
/-- signs of a level -/
theorem p_exL {F l : Nat} (hN : 170000 ≤ N) (hSX : SX N X b n p e F) (hl : l ≤ 3) (hF : 10 * (10 - op) + (10 - (l + 1)) ≤ F) (hWl : W.length ≤ 6 * op + l) (ha : al = 0 ∨ ¬ W = []) (hs : HW l W) : ∀ (d i : Nat) (code code1 : List Ins) (vs : List (List Nat)) (cl : List Cn) (Z : List (Nat × Nat)) (ah : Option (Nat × Nat)) (t : cS) (s : mS) (m most Q : Nat), (TL b n).length ≤ i + d → PE b n p e i op D code code1 vs cl (W ++ Z.map bt ++ ahW ah) (0 :: cu) fs t s → rWn s → code = code1 ++ ahI ah ++ Z.reverse.map twI → okA ah → (∀ z ∈ Z, okS z.1 ∧ l ≤ lv z.1 ∧ lv z.1 ≤ 3) → (l = 1 → m = 0 → ∀ z ∈ Z, 2 ≤ lv z.1) → (∀ hi : i < (TL b n).length, PZ (l + 1) Z (TL b n)[i].1) → (l = 1 → most = 1) → (¬ l = 1 → most = (TL b n).length) → (l = 1 → 1 ≤ m → one1 Z) → m ≤ i → d < Q → 1 ≤ D → (∃ t' s' k i' seg code1 vs' cl' Z ah, cf_186_L1 N X (cf_S0 N X F) Q 0 (Int32.ofNat l) (Int32.ofNat most) (Int32.ofNat m) t = some (t', .inl none) ∧ i ≤ i' ∧ k + i ≤ i' ∧ (∀ f, LL N (f + k) al (Int32.ofNat 1) s = LL N f al (Int32.ofNat 1) s') ∧ PE b n p e i' op D (code ++ seg) code1 vs' cl' (W ++ Z.map bt ++ ahW ah) (0 :: cu) fs t' s' ∧ code ++ seg = code1 ++ ahI ah ++ Z.reverse.map twI ∧ okA ah ∧ (∀ z ∈ Z, okS z.1 ∧ l ≤ lv z.1 ∧ lv z.1 ≤ 3) ∧ (∀ hi : i' < (TL b n).length, PZ l Z (TL b n)[i'].1) ∧ FR p e t t' s s') ∨ FLT N b n p e i al (Int32.ofNat 1) t s (cf_186_L1 N X (cf_S0 N X F) Q 0 (Int32.ofNat l) (Int32.ofNat most) (Int32.ofNat m) t) := by
  have eL : ∀ Q x1 x2 x3 t, cf_186_L1 N X (cf_S0 N X F) (Q + 1) 0 x1 x2 x3 t = cf_186_36 N X (cf_S0 N X F) (cf_186_L1 N X (cf_S0 N X F) Q) x1 x2 x3 t := fun _ _ _ _ _ => rfl
  intro d
  induction d with
  | zero =>
    intro i code code1 vs cl Z ah t s m most Q hd h
    obtain ⟨hi, _⟩ := h.1.now
    omega
  | succ d ih =>
    intro i code code1 vs cl Z ah t s m most Q hd h hwn hf hA hz hz2 hk hm1 hm2 ho1 hmi hdQ hD1
    obtain ⟨Q, rfl⟩ : ∃ Q', Q = Q' + 1 := ⟨Q - 1, by omega⟩
    obtain ⟨hi, e5, e6, e7, hkk, ho, he, hlt, hll⟩ := h.1.now
    have hop := h.1.2.2.2.1
    have h9 : s.1 9 = Int32.ofNat 0 := h.1.2.2.2.2.2.2.2.2.2
    have h5 := h.2.2.2.2.1
    have kn : cf_42 N X t = some (t, .inl (some (.int (Int32.ofNat (ck (TL b n)[i]))))) := by rw [c_kindNow, e5]
    have pn : cf_243 N X t = some (t, .inl (some (.int (Int32.ofNat (TL b n)[i].2.2.2.1)))) := by rw [c_placeNow, e6]
    -- the level that the class sees
    have hlc : cf_187 N X (Int32.ofNat (ck (TL b n)[i])) t = some (t, .inl (some (.int (lvI (TL b n)[i].1)))) := by
      by_cases z : 33 ≤ (TL b n)[i].1
      · have e1 : ck (TL b n)[i] = (TL b n)[i].1 := if_neg (by omega)
        rw [e1]
        exact c_levelOf (Or.inr (TL_sg hi z))
      · have z2 : ck (TL b n)[i] < 33 := by
          unfold ck
          split
          · split <;> omega
          · omega
        rw [c_levelOf (Or.inl z2)]
        have q1 : lv (ck (TL b n)[i]) = 9 := by
          unfold lv
          rw [if_neg (by omega), if_neg (by omega), if_neg (by omega), if_neg (by omega)]
        have q2 : lv (TL b n)[i].1 = 9 := by
          unfold lv
          rw [if_neg (by omega), if_neg (by omega), if_neg (by omega), if_neg (by omega)]
        unfold lvI
        rw [q1, q2]
    obtain ⟨hk0, hk1⟩ := hk hi
    have stop : cf_186_L1 N X (cf_S0 N X F) (Q + 1) 0 (Int32.ofNat l) (Int32.ofNat most) (Int32.ofNat m) t = some (t, .inl none) → (lv (TL b n)[i].1 = l → l = 1 ∧ one1 Z) → (∃ t' s' k i' seg code1 vs' cl' Z ah, cf_186_L1 N X (cf_S0 N X F) (Q + 1) 0 (Int32.ofNat l) (Int32.ofNat most) (Int32.ofNat m) t = some (t', .inl none) ∧ i ≤ i' ∧ k + i ≤ i' ∧ (∀ f, LL N (f + k) al (Int32.ofNat 1) s = LL N f al (Int32.ofNat 1) s') ∧ PE b n p e i' op D (code ++ seg) code1 vs' cl' (W ++ Z.map bt ++ ahW ah) (0 :: cu) fs t' s' ∧ code ++ seg = code1 ++ ahI ah ++ Z.reverse.map twI ∧ okA ah ∧ (∀ z ∈ Z, okS z.1 ∧ l ≤ lv z.1 ∧ lv z.1 ≤ 3) ∧ (∀ hi : i' < (TL b n).length, PZ l Z (TL b n)[i'].1) ∧ FR p e t t' s s') := fun hh h1 => by
      refine ⟨t, s, 0, i, [], code1, vs, cl, Z, ah, hh, by omega, by omega, fun f => rfl, by rw [List.append_nil]; exact h, by rw [List.append_nil]; exact hf, hA, hz, fun _ => ⟨hk0, ?_⟩, FR.rf⟩
      rcases hk1 with y | y | y
      · exact Or.inl y
      · by_cases c : lv (TL b n)[i].1 = l
        · obtain ⟨y1, y2⟩ := h1 c
          exact Or.inr (Or.inr ⟨by omega, y2⟩)
        · exact Or.inr (Or.inl (by omega))
      · exact Or.inr (Or.inr y)
    by_cases cm : most ≤ m
    · have l1 : l = 1 := by
        refine Classical.byContradiction fun y => ?_
        have := hm2 y
        omega
      refine Or.inl (stop ?_ (fun _ => ⟨l1, ho1 l1 (by have := hm1 l1; omega)⟩))
      have hmm : most < 2000 := by
        have := hm1 l1
        omega
      rw [eL]
      unfold cf_186_36 cf_186_107
      simp (disch := omega) only [ev_S, ev_C, ↓reduceIte, Nat.reduceEqDiff, Nat.reduceLeDiff, Nat.reduceAdd, Nat.reduceMul, Nat.reduceSub, reduceCtorEq, l32_0, l32_1, l32_2, l32_3, l32_4, l32_5, l32_6, l32_7, l32_8, l32_9, l32_10, l32_11, l32_12, l32_13, l32_14, l32_15, l32_16, l32_17, l32_18, l32_19, l32_20, l32_21, l32_22, l32_23, l32_24, l32_25, l32_26, l32_27, l32_28, l32_29, l32_33, l32_40, l32_41, l32_44, l32_45, l32_59, l32_61, l32_91, l32_93, l32_123, l32_125, cm]
    · have hmm : most < 2000 := by
        by_cases y : l = 1
        · have := hm1 y
          omega
        · have := hm2 y
          omega
      by_cases cl0 : lv (TL b n)[i].1 = l
      · -- a sign of this level
        have hsg : 33 ≤ (TL b n)[i].1 := by
          unfold lv at cl0
          repeat' split at cl0
          all_goals omega
        have hckS : ck (TL b n)[i] = (TL b n)[i].1 := if_neg (by omega)
        have hokS := TL_sg hi hsg
        have el : lvI (TL b n)[i].1 = Int32.ofNat l := by
          unfold lvI
          rw [cl0, if_neg (by omega)]
        rw [el] at hlc
        have hne44 : al = 0 ∨ ¬ s.1 44 = Int32.ofNat 0 := by
          rcases ha with y | y
          · exact Or.inl y
          · refine Or.inr fun x => ?_
            rw [h5.1] at x
            have l1 : 0 < W.length := List.length_pos_iff.mpr y
            have l2 := h5.2.1
            rw [ev_eq (by omega) (by omega)] at x
            rw [List.length_append, List.length_append] at x
            omega
        have g1 := r_isSign (N := N) (s := s) (c := 91) hkk (by decide) (by decide)
        rw [if_neg hk0] at g1
        obtain ⟨s1, a1, a2, a3⟩ := PE.ahf (N := N) (al := al) (fl := Z.reverse.map twI) h hA hf hs.nA
        have hmz : l = 1 → m = 0 := fun y => by
          have := hm1 y
          omega
        obtain ⟨t2, s2, b1, b2, ⟨_, b3⟩, b4⟩ := PE.sg (N := N) (X := X) (al := al) hN a2 hl (fun _ => cl0) hs (fun z hh => ⟨(hz z hh).1, (hz z hh).2.1, (hz z hh).2.2, fun y => hz2 y (hmz y) z hh⟩) hf (by omega)
        have hLL : ∀ f, LL N (f + 1) al (Int32.ofNat 1) s = LL N f al (Int32.ofNat 0) s2 := fun f => by
          show _ = LL N f al 0 s2
          rw [LL_1 h9 hne44, ← b2, ← a1]
          unfold mf_285_38 mf_285_44
          simp (disch := omega) only [ev_S, ev_P, ↓reduceIte, Nat.reduceEqDiff, Nat.reduceLeDiff, Nat.reduceAdd, Nat.reduceMul, Nat.reduceSub, reduceCtorEq, l32_0, l32_1, l32_2, l32_3, l32_4, l32_5, l32_6, l32_7, l32_8, l32_9, l32_10, l32_11, l32_12, l32_13, l32_14, l32_15, l32_16, l32_17, l32_18, l32_19, l32_20, l32_21, l32_22, l32_23, l32_24, l32_25, l32_26, l32_27, l32_28, l32_29, l32_33, l32_40, l32_41, l32_44, l32_45, l32_59, l32_61, l32_91, l32_93, l32_123, l32_125, g1]
        have hall : FR p e t t2 s s2 := a3.tr b4
        have w2 : rWn s2 := hwn.kp hall.2
        have hC : cf_186_L1 N X (cf_S0 N X F) (Q + 1) 0 (Int32.ofNat l) (Int32.ofNat most) (Int32.ofNat m) t = ko_call 5 (cf_S0 N X F 186 [.int (Int32.ofNat (l + 1))] t2) (fun g1 v1 => co_v v1 (cf_186_87 N X (cf_S0 N X F) (cf_186_L1 N X (cf_S0 N X F) Q) (Int32.ofNat l) (Int32.ofNat most) (Int32.ofNat m) (Int32.ofNat (TL b n)[i].1) (Int32.ofNat (TL b n)[i].2.2.2.1) g1)) := by
          rw [hckS] at kn hlc
          rw [eL]
          unfold cf_186_36 cf_186_41 cf_186_48 cf_186_51
          simp (disch := omega) only [ev_S, ev_C, ↓reduceIte, Nat.reduceEqDiff, Nat.reduceLeDiff, Nat.reduceAdd, Nat.reduceMul, Nat.reduceSub, reduceCtorEq, l32_0, l32_1, l32_2, l32_3, l32_4, l32_5, l32_6, l32_7, l32_8, l32_9, l32_10, l32_11, l32_12, l32_13, l32_14, l32_15, l32_16, l32_17, l32_18, l32_19, l32_20, l32_21, l32_22, l32_23, l32_24, l32_25, l32_26, l32_27, l32_28, l32_29, l32_33, l32_40, l32_41, l32_44, l32_45, l32_59, l32_61, l32_91, l32_93, l32_123, l32_125, cm, kn, hlc]
          unfold cf_186_55 cf_186_62 cf_186_71 cf_186_80
          simp (disch := omega) only [ev_S, ev_C, ↓reduceIte, Nat.reduceEqDiff, Nat.reduceLeDiff, Nat.reduceAdd, Nat.reduceMul, Nat.reduceSub, reduceCtorEq, l32_0, l32_1, l32_2, l32_3, l32_4, l32_5, l32_6, l32_7, l32_8, l32_9, l32_10, l32_11, l32_12, l32_13, l32_14, l32_15, l32_16, l32_17, l32_18, l32_19, l32_20, l32_21, l32_22, l32_23, l32_24, l32_25, l32_26, l32_27, l32_28, l32_29, l32_33, l32_40, l32_41, l32_44, l32_45, l32_59, l32_61, l32_91, l32_93, l32_123, l32_125, kn, pn, b1]
        rw [hC]
        have hne : al = 0 ∨ ¬ (W ++ [bt ((TL b n)[i].1, (TL b n)[i].2.2.2.1)]) = [] := Or.inr (by simp)
        rcases hSX (l + 1) (i + 1) op (D + 1) code vs cl (W ++ [bt ((TL b n)[i].1, (TL b n)[i].2.2.2.1)]) (0 :: cu) fs al t2 s2 (by omega) b3 w2 (Or.inr ⟨W, _, rfl, Or.inr ⟨_, rfl, hokS, by show lv (TL b n)[i].1 < l + 1; omega⟩⟩) (by rw [List.length_append, List.length_singleton]; omega) hne hF (by omega) with ⟨t4, s4, k4, i4, seg4, code4, vs4, cl4, Z4, ah4, x1, x2, x3, x4, x5, x6, x7, x8, x9, x10⟩ | ⟨t4, s4, k4, x1, x2, x3, x4, x5⟩
        · rw [x1]
          have hP4 : kP t4 2 1 = some p := x5.2.1.1
          have hp : (p = 12 ∨ p = 21) = True := eq_true x5.2.1.2.1
          obtain ⟨t5, q1, q2, q3⟩ := x5.em1 (N := N) (X := X) (c := twI ((TL b n)[i].1, (TL b n)[i].2.2.2.1)) (cu' := 0 :: cu) (D' := D) (k := Int32.ofNat 19) (a := Int32.ofNat (TL b n)[i].1) (v := Int32.ofNat (TL b n)[i].2.2.2.1) rfl (Or.inr (Or.inl (Nat.zero_le _))) rfl (okI_tw hokS (by show lv (TL b n)[i].1 ≤ 3; omega)) (by omega) (Or.inl (Nat.le_refl 1)) (by unfold xp noJ twI; simp)
          have hC2 : co_v none (cf_186_87 N X (cf_S0 N X F) (cf_186_L1 N X (cf_S0 N X F) Q) (Int32.ofNat l) (Int32.ofNat most) (Int32.ofNat m) (Int32.ofNat (TL b n)[i].1) (Int32.ofNat (TL b n)[i].2.2.2.1) t4) = cf_186_L1 N X (cf_S0 N X F) Q 0 (Int32.ofNat l) (Int32.ofNat most) (Int32.ofNat (m + 1)) t5 := by
            unfold cf_186_87 cf_186_100
            simp (disch := omega) only [ev_S, ev_C, ↓reduceIte, Nat.reduceEqDiff, Nat.reduceLeDiff, Nat.reduceAdd, Nat.reduceMul, Nat.reduceSub, reduceCtorEq, l32_0, l32_1, l32_2, l32_3, l32_4, l32_5, l32_6, l32_7, l32_8, l32_9, l32_10, l32_11, l32_12, l32_13, l32_14, l32_15, l32_16, l32_17, l32_18, l32_19, l32_20, l32_21, l32_22, l32_23, l32_24, l32_25, l32_26, l32_27, l32_28, l32_29, l32_33, l32_40, l32_41, l32_44, l32_45, l32_59, l32_61, l32_91, l32_93, l32_123, l32_125, hP4, hp, q1]
          have hC3 : ko_call 5 (some (t4, Sum.inl none)) (fun g1 v1 => co_v v1 (cf_186_87 N X (cf_S0 N X F) (cf_186_L1 N X (cf_S0 N X F) Q) (Int32.ofNat l) (Int32.ofNat most) (Int32.ofNat m) (Int32.ofNat (TL b n)[i].1) (Int32.ofNat (TL b n)[i].2.2.2.1) g1)) = cf_186_L1 N X (cf_S0 N X F) Q 0 (Int32.ofNat l) (Int32.ofNat most) (Int32.ofNat (m + 1)) t5 := hC2
          rw [hC3]
          have eW : W ++ [bt ((TL b n)[i].1, (TL b n)[i].2.2.2.1)] ++ Z4.map bt ++ ahW ah4 = W ++ (((TL b n)[i].1, (TL b n)[i].2.2.2.1) :: Z4).map bt ++ ahW ah4 := by simp
          rw [eW] at q2
          have w5 : rWn s4 := w2.kp x10.2
          have e6' : code ++ seg4 ++ [twI ((TL b n)[i].1, (TL b n)[i].2.2.2.1)] = code4 ++ ahI ah4 ++ (((TL b n)[i].1, (TL b n)[i].2.2.2.1) :: Z4).reverse.map twI := by
            rw [x6]
            simp
          rcases ih i4 (code ++ seg4 ++ [twI ((TL b n)[i].1, (TL b n)[i].2.2.2.1)]) code4 vs4 cl4 (((TL b n)[i].1, (TL b n)[i].2.2.2.1) :: Z4) ah4 t5 s4 (m + 1) most Q (by omega) q2 w5 e6' x7 (fun z hh => by
              rcases List.mem_cons.mp hh with y | y
              · rw [y]
                exact ⟨hokS, by show l ≤ lv (TL b n)[i].1; omega, by show lv (TL b n)[i].1 ≤ 3; omega⟩
              · exact ⟨(x8 z y).1, by have := (x8 z y).2.1; omega, (x8 z y).2.2⟩) (fun _ y => absurd y (by omega)) (fun hi4 => by
              obtain ⟨y1, y2⟩ := x9 hi4
              refine ⟨y1, ?_⟩
              rcases y2 with y2 | y2 | ⟨y2, Z1, z1, Z2, y3, y4, y5⟩
              · exact Or.inl y2
              · exact Or.inr (Or.inl y2)
              · exact Or.inr (Or.inr ⟨y2, _ :: Z1, z1, Z2, by rw [y3]; rfl, y4, y5⟩)) hm1 hm2 (fun y _ => ⟨[], _, Z4, rfl, by show lv (TL b n)[i].1 = 1; omega, fun z hh => by have := (x8 z hh).2.1; omega⟩) (by omega) (by omega) hD1 with ⟨t9, s9, k9, i9, seg9, code9, vs9, cl9, Z9, ah9, z1, z2, z3, z4, z5, z6, z7, z8, z9, z10⟩ | ⟨t9, s9, k9, z1, z2, z3, z4, z5⟩
          · refine Or.inl ⟨t9, s9, k9 + (k4 + 1), i9, seg4 ++ [twI ((TL b n)[i].1, (TL b n)[i].2.2.2.1)] ++ seg9, code9, vs9, cl9, Z9, ah9, z1, by omega, by omega, fun f => ?_, by rw [← List.append_assoc, ← List.append_assoc]; exact z5, by rw [← List.append_assoc, ← List.append_assoc]; exact z6, z7, z8, z9, hall.tr (x10.tr (q3.tr z10))⟩
            rw [show f + (k9 + (k4 + 1)) = (f + k9 + k4) + 1 by omega, hLL, x4]
            exact z4 f
          · refine Or.inr ⟨t9, s9, k9 + (k4 + 1), z1, by omega, fun f => ?_, z4, hall.pre (x10.pre (q3.pre z5))⟩
            rw [show f + (k9 + (k4 + 1)) = (f + k9 + k4) + 1 by omega, hLL, x4]
            exact z3 f
        · refine Or.inr ⟨t4, s4, k4 + 1, by rw [x1]; rfl, by omega, fun f => ?_, x4, hall.pre x5⟩
          rw [← Nat.add_assoc, hLL]
          exact x3 f
      · refine Or.inl (stop ?_ (fun y => absurd y cl0))
        have hnl : (lvI (TL b n)[i].1 = Int32.ofNat l) = False := by
          refine eq_false fun y => ?_
          unfold lvI at y
          split at y
          · exact absurd y (by rcases (show l = 0 ∨ l = 1 ∨ l = 2 ∨ l = 3 by omega) with z | z | z | z <;> subst z <;> decide)
          · rename_i c
            rcases lv_le (TL b n)[i].1 with z | z
            · exact c z
            · rw [ev_eq (by omega) (by omega)] at y
              exact cl0 y
        rw [eL]
        unfold cf_186_36 cf_186_41 cf_186_48 cf_186_51 cf_186_107
        simp (disch := omega) only [ev_S, ev_C, ↓reduceIte, Nat.reduceEqDiff, Nat.reduceLeDiff, Nat.reduceAdd, Nat.reduceMul, Nat.reduceSub, reduceCtorEq, l32_0, l32_1, l32_2, l32_3, l32_4, l32_5, l32_6, l32_7, l32_8, l32_9, l32_10, l32_11, l32_12, l32_13, l32_14, l32_15, l32_16, l32_17, l32_18, l32_19, l32_20, l32_21, l32_22, l32_23, l32_24, l32_25, l32_26, l32_27, l32_28, l32_29, l32_33, l32_40, l32_41, l32_44, l32_45, l32_59, l32_61, l32_91, l32_93, l32_123, l32_125, cm, kn, hlc, hnl]
/-- expressions are read alike, whatever the fuel -/
theorem p_SX (hN : 170000 ≤ N) (hX : oX N X) (hY : oY X) : ∀ F, SX N X b n p e F := by
  intro F
  induction F using Nat.strongRecOn with
  | ind F ih =>
    intro l i op D code vs cl W cu fs al t s hl h hwn hs hWl ha hF hD1
    have hop := h.1.2.2.2.1
    by_cases c : l = 4
    · subst c
      obtain ⟨F0, rfl⟩ : ∃ F0, F = F0 + 6 := ⟨F - 6, by omega⟩
      have hC : cf_S0 N X (F0 + 6) 186 [.int (Int32.ofNat 4)] t = ko_call 5 (cf_188 N X (cf_S0 N X (F0 + 4)) t) (fun g1 v1 => co_v v1 (some (g1, .inl none))) := by
        rw [show F0 + 6 = (F0 + 5) + 1 by omega, S0_186]
        unfold cf_186 cf_186_0 cf_186_5 cf_186_9
        simp (disch := omega) only [ev_S, ev_C, ↓reduceIte, Nat.reduceEqDiff, Nat.reduceLeDiff, Nat.reduceAdd, Nat.reduceMul, Nat.reduceSub, reduceCtorEq, l32_0, l32_1, l32_2, l32_3, l32_4, l32_5, l32_6, l32_7, l32_8, l32_9, l32_10, l32_11, l32_12, l32_13, l32_14, l32_15, l32_16, l32_17, l32_18, l32_19, l32_20, l32_21, l32_22, l32_23, l32_24, l32_25, l32_26, l32_27, l32_28, l32_29, l32_33, l32_40, l32_41, l32_44, l32_45, l32_59, l32_61, l32_91, l32_93, l32_123, l32_125]
        rfl
      rw [hC]
      rcases p_una (al := al) hN hX hY (ih F0 (by omega)) (ih (F0 + 1) (by omega)) (ih (F0 + 2) (by omega)) (ih (F0 + 3) (by omega)) h hwn hD1 (by omega) hWl hs ha with ⟨t4, s4, k4, i4, seg4, code4, vs4, cl4, Z4, ah4, x1, x2⟩ | ⟨t4, s4, k4, x1, x2⟩
      · exact Or.inl ⟨t4, s4, k4, i4, seg4, code4, vs4, cl4, Z4, ah4, by rw [x1]; rfl, x2⟩
      · exact Or.inr ⟨t4, s4, k4, by rw [x1]; rfl, x2⟩
    · obtain ⟨F0, rfl⟩ : ∃ F0, F = F0 + 1 := ⟨F - 1, by omega⟩
      have hl3 : l ≤ 3 := by omega
      have hC : cf_S0 N X (F0 + 1) 186 [.int (Int32.ofNat l)] t = ko_call 5 (cf_S0 N X F0 186 [.int (Int32.ofNat (l + 1))] t) (fun g1 v1 => co_v v1 (cf_186_17 N X (cf_S0 N X F0) (Int32.ofNat l) g1)) := by
        rw [S0_186]
        unfold cf_186 cf_186_0 cf_186_10
        simp (disch := omega) only [ev_S, ev_C, ↓reduceIte, Nat.reduceEqDiff, Nat.reduceLeDiff, Nat.reduceAdd, Nat.reduceMul, Nat.reduceSub, reduceCtorEq, l32_0, l32_1, l32_2, l32_3, l32_4, l32_5, l32_6, l32_7, l32_8, l32_9, l32_10, l32_11, l32_12, l32_13, l32_14, l32_15, l32_16, l32_17, l32_18, l32_19, l32_20, l32_21, l32_22, l32_23, l32_24, l32_25, l32_26, l32_27, l32_28, l32_29, l32_33, l32_40, l32_41, l32_44, l32_45, l32_59, l32_61, l32_91, l32_93, l32_123, l32_125, hl3]
      rw [hC]
      rcases ih F0 (by omega) (l + 1) i op D code vs cl W cu fs al t s (by omega) h hwn (hs.mono (by omega)) (by omega) ha (by omega) hD1 with ⟨t4, s4, k4, i4, seg4, code4, vs4, cl4, Z4, ah4, x1, x2, x3, x4, x5, x6, x7, x8, x9, x10⟩ | ⟨t4, s4, k4, x1, x2, x3, x4, x5⟩
      · rw [x1]
        obtain ⟨hi4, _, _, _, _, _, _, _, hll⟩ := x5.1.now
        have w4 : rWn s4 := hwn.kp x10.2
        have cnt : cf_41 N X t4 = some (t4, .inl (some (.int (Int32.ofNat (TL b n).length)))) := by rw [c_count, x5.1.cnt]
        have hC2 : ko_call 5 (some (t4, Sum.inl none)) (fun g1 v1 => co_v v1 (cf_186_17 N X (cf_S0 N X F0) (Int32.ofNat l) g1)) = cf_186_L1 N X (cf_S0 N X F0) N 0 (Int32.ofNat l) (Int32.ofNat (if l = 1 then 1 else (TL b n).length)) (Int32.ofNat 0) t4 := by
          by_cases c1 : l = 1
          · subst c1
            rw [if_pos rfl]
            unfold cf_186_17 cf_186_22 cf_186_33
            simp (disch := omega) only [ev_S, ev_C, ↓reduceIte, Nat.reduceEqDiff, Nat.reduceLeDiff, Nat.reduceAdd, Nat.reduceMul, Nat.reduceSub, reduceCtorEq, l32_0, l32_1, l32_2, l32_3, l32_4, l32_5, l32_6, l32_7, l32_8, l32_9, l32_10, l32_11, l32_12, l32_13, l32_14, l32_15, l32_16, l32_17, l32_18, l32_19, l32_20, l32_21, l32_22, l32_23, l32_24, l32_25, l32_26, l32_27, l32_28, l32_29, l32_33, l32_40, l32_41, l32_44, l32_45, l32_59, l32_61, l32_91, l32_93, l32_123, l32_125]
          · rw [if_neg c1]
            unfold cf_186_17 cf_186_26 cf_186_33
            simp (disch := omega) only [ev_S, ev_C, ↓reduceIte, Nat.reduceEqDiff, Nat.reduceLeDiff, Nat.reduceAdd, Nat.reduceMul, Nat.reduceSub, reduceCtorEq, l32_0, l32_1, l32_2, l32_3, l32_4, l32_5, l32_6, l32_7, l32_8, l32_9, l32_10, l32_11, l32_12, l32_13, l32_14, l32_15, l32_16, l32_17, l32_18, l32_19, l32_20, l32_21, l32_22, l32_23, l32_24, l32_25, l32_26, l32_27, l32_28, l32_29, l32_33, l32_40, l32_41, l32_44, l32_45, l32_59, l32_61, l32_91, l32_93, l32_123, l32_125, c1, cnt]
        rw [hC2]
        rcases p_exL (al := al) (D := D) (cu := cu) (fs := fs) hN (ih F0 (by omega)) hl3 (by omega) hWl ha hs (TL b n).length i4 (code ++ seg4) code4 vs4 cl4 Z4 ah4 t4 s4 0 (if l = 1 then 1 else (TL b n).length) N (by omega) x5 w4 x6 x7 (fun z hh => ⟨(x8 z hh).1, by have := (x8 z hh).2.1; omega, (x8 z hh).2.2⟩) (fun y _ z hh => by have := (x8 z hh).2.1; omega) x9 (fun y => if_pos y) (fun y => if_neg y) (fun _ y => absurd y (by decide)) (by omega) (by omega) hD1 with ⟨t9, s9, k9, i9, seg9, code9, vs9, cl9, Z9, ah9, z1, z2, z3, z4, z5, z6, z7, z8, z9, z10⟩ | ⟨t9, s9, k9, z1, z2, z3, z4, z5⟩
        · refine Or.inl ⟨t9, s9, k9 + k4, i9, seg4 ++ seg9, code9, vs9, cl9, Z9, ah9, z1, by omega, by omega, fun f => ?_, by rw [← List.append_assoc]; exact z5, by rw [← List.append_assoc]; exact z6, z7, z8, z9, x10.tr z10⟩
          rw [← Nat.add_assoc, x4]
          exact z4 f
        · refine Or.inr ⟨t9, s9, k9 + k4, z1, by omega, fun f => ?_, z4, x10.pre z5⟩
          rw [← Nat.add_assoc, x4]
          exact z3 f
      · exact Or.inr ⟨t4, s4, k4, by rw [x1]; rfl, x2, x3, x4, x5⟩
end EXP
