/-! ===== PURE: a list, on both sides ===== -/
section LIS
variable {N : Nat} {X : Nat → Option zz_C} {t t' : cS} {s s' s1 s2 : mS} {b : Nat → Nat} {n p e i op D D' : Nat} {code code1 code2 fl : List Ins} {vs : List (List Nat)} {cl : List Cn} {W W' : List Wt} {cu cu' : List Nat} {fs : Nat × Nat × Nat} {al : Int32} {rk : Nat → List Value → cS → kO} {Z : List (Nat × Nat)} {ah : Option (Nat × Nat)}
/-- ends1 of a list -/
theorem PE.e1 {w : Wt} (h : PE b n p e i op D code code vs cl (W ++ [w]) cu fs t s) (hwn : rWn s) (hq3 : w.1 = 5 ∨ w.1 = 6 ∨ w.1 = 7) (hb : w.1 = 7 → w.2.1 < 28) (hc2 : w.2.2.1 < 2000) : ∃ s1, PE b n p e i op D code code vs cl (W ++ [inc w]) cu fs t s1 ∧ FR p e t t s s1 ∧ ∃ hi : i < (TL b n).length, (((TL b n)[i].1 = 44 ∧ (w.1 = 7 → w.2.2.1 + 1 < whi (w.2.1 + 11))) ∧ mf_288 N s = mo_bv (mf_260 N s1) (fun s2 => some (s2, some (.int (Int32.ofNat 0))))) ∨ (((TL b n)[i].1 = 44 ∧ w.1 = 7 ∧ whi (w.2.1 + 11) ≤ w.2.2.1 + 1) ∧ mf_288 N s = mo_bv (mf_261 N (Int32.ofNat 5) (s1.1 6) s1) (fun s2 => if ¬ s2.1 9 = 0 then some (s2, some (.int (Int32.ofNat 0))) else mf_288_179 N s2)) ∨ (¬ (TL b n)[i].1 = 44 ∧ mf_288 N s = mo_bi (mf_290 N s1) (fun s2 y => mf_288_189 N y s2)) := by
  have h5 := h.2.2.2.2.1
  obtain ⟨q0, q1, q2, q3, q4, q5, q6, q7⟩ := w_last h5
  obtain ⟨c1, c2⟩ := h.nc
  obtain ⟨hi, e5, e6, e7, hkk, ho, he, hlt, hll⟩ := c1.1.now
  have h9 : s.1 9 = Int32.ofNat 0 := h.1.2.2.2.2.2.2.2.2.2
  obtain ⟨r0, r1, r2, r3, r4, r5, r6, r7⟩ := w_last c1.2.2.2.2.1
  have g1 := r_isSign (N := N) (c := 44) hkk (by decide) (by decide)
  have w0 : rWn _ := hwn.kp c2.2
  have g9 : (mA s 40 (upd (s.2.2.1 40) W.length (Int32.ofNat (w.2.2.1 + 1)))).1 9 = Int32.ofNat 0 := h9
  have hW8 : W.length < 80 := by omega
  have hwh : ∀ k, whi k < 10 := fun k => by
    unfold whi wnt
    repeat' split
    all_goals omega
  have hst : mf_288 N s = mo_bi (mf_263 N (Int32.ofNat 44) (mA s 40 (upd (s.2.2.1 40) W.length (Int32.ofNat (w.2.2.1 + 1))))) (fun s1 y => mf_288_30 N (Int32.ofNat W.length) (Int32.ofNat w.1) y s1) := by
    unfold mf_288 mf_288_0
    simp (disch := omega) only [ev_S, ev_P, ↓reduceIte, Nat.reduceEqDiff, Nat.reduceLeDiff, Nat.reduceAdd, Nat.reduceMul, Nat.reduceSub, reduceCtorEq, l32_0, l32_1, l32_2, l32_3, l32_4, l32_5, l32_6, l32_7, l32_8, l32_9, l32_10, l32_11, l32_12, l32_13, l32_14, l32_15, l32_16, l32_17, l32_18, l32_19, l32_20, l32_21, l32_22, l32_23, l32_24, l32_25, l32_26, l32_27, l32_28, l32_29, l32_33, l32_40, l32_41, l32_44, l32_45, l32_59, l32_61, l32_91, l32_93, l32_123, l32_125, q0, q2, q4]
  generalize hS : mA s 40 (upd (s.2.2.1 40) W.length (Int32.ofNat (w.2.2.1 + 1))) = sn at *
  refine ⟨sn, c1, c2, hi, ?_⟩
  rw [hst, g1]
  by_cases z : (TL b n)[i].1 = 44
  · rw [if_pos z]
    by_cases z7 : w.1 = 7
    · have g2 := r_most0 (N := N) (s := sn) w0 (hb z7)
      have hwk := hwh (w.2.1 + 11)
      rw [z7]
      by_cases zc : w.2.2.1 + 1 < whi (w.2.1 + 11)
      · refine Or.inl ⟨⟨z, fun _ => zc⟩, ?_⟩
        unfold mf_288_30 mf_288_36 mf_288_89 mf_288_124 mf_288_130 mf_288_134 mf_288_150 mf_288_162 mf_288_166 mf_288_172 mf_288_179 mf_288_183
        simp (disch := omega) only [ev_S, ev_P, ↓reduceIte, Nat.reduceEqDiff, Nat.reduceLeDiff, Nat.reduceAdd, Nat.reduceMul, Nat.reduceSub, reduceCtorEq, l32_0, l32_1, l32_2, l32_3, l32_4, l32_5, l32_6, l32_7, l32_8, l32_9, l32_10, l32_11, l32_12, l32_13, l32_14, l32_15, l32_16, l32_17, l32_18, l32_19, l32_20, l32_21, l32_22, l32_23, l32_24, l32_25, l32_26, l32_27, l32_28, l32_29, l32_33, l32_40, l32_41, l32_44, l32_45, l32_59, l32_61, l32_91, l32_93, l32_123, l32_125, r3, r4, g2, g9, zc]
      · refine Or.inr (Or.inl ⟨⟨z, rfl, by omega⟩, ?_⟩)
        unfold mf_288_30 mf_288_36 mf_288_89 mf_288_124 mf_288_130 mf_288_134 mf_288_150 mf_288_153
        simp (disch := omega) only [ev_S, ev_P, ↓reduceIte, Nat.reduceEqDiff, Nat.reduceLeDiff, Nat.reduceAdd, Nat.reduceMul, Nat.reduceSub, reduceCtorEq, l32_0, l32_1, l32_2, l32_3, l32_4, l32_5, l32_6, l32_7, l32_8, l32_9, l32_10, l32_11, l32_12, l32_13, l32_14, l32_15, l32_16, l32_17, l32_18, l32_19, l32_20, l32_21, l32_22, l32_23, l32_24, l32_25, l32_26, l32_27, l32_28, l32_29, l32_33, l32_40, l32_41, l32_44, l32_45, l32_59, l32_61, l32_91, l32_93, l32_123, l32_125, r3, r4, g2, g9, zc]
        rfl
    · refine Or.inl ⟨⟨z, fun y => absurd y z7⟩, ?_⟩
      have z1 : ¬ w.1 = 3 := by omega
      have z2 : ¬ w.1 = 4 := by omega
      have z3 : ¬ w.1 = 8 := by omega
      unfold mf_288_30 mf_288_36 mf_288_89 mf_288_124 mf_288_162 mf_288_166 mf_288_172 mf_288_179 mf_288_183
      simp (disch := omega) only [ev_S, ev_P, ↓reduceIte, Nat.reduceEqDiff, Nat.reduceLeDiff, Nat.reduceAdd, Nat.reduceMul, Nat.reduceSub, reduceCtorEq, l32_0, l32_1, l32_2, l32_3, l32_4, l32_5, l32_6, l32_7, l32_8, l32_9, l32_10, l32_11, l32_12, l32_13, l32_14, l32_15, l32_16, l32_17, l32_18, l32_19, l32_20, l32_21, l32_22, l32_23, l32_24, l32_25, l32_26, l32_27, l32_28, l32_29, l32_33, l32_40, l32_41, l32_44, l32_45, l32_59, l32_61, l32_91, l32_93, l32_123, l32_125, g9, z1, z2, z3, z7]
  · rw [if_neg z]
    refine Or.inr (Or.inr ⟨z, ?_⟩)
    have z1 : ¬ w.1 = 3 := by omega
    have z2 : ¬ w.1 = 4 := by omega
    have z3 : ¬ w.1 = 8 := by omega
    unfold mf_288_30 mf_288_36 mf_288_89 mf_288_124 mf_288_130 mf_288_162 mf_288_185
    by_cases z7 : w.1 = 7
    · simp (disch := omega) only [ev_S, ev_P, ↓reduceIte, Nat.reduceEqDiff, Nat.reduceLeDiff, Nat.reduceAdd, Nat.reduceMul, Nat.reduceSub, reduceCtorEq, l32_0, l32_1, l32_2, l32_3, l32_4, l32_5, l32_6, l32_7, l32_8, l32_9, l32_10, l32_11, l32_12, l32_13, l32_14, l32_15, l32_16, l32_17, l32_18, l32_19, l32_20, l32_21, l32_22, l32_23, l32_24, l32_25, l32_26, l32_27, l32_28, l32_29, l32_33, l32_40, l32_41, l32_44, l32_45, l32_59, l32_61, l32_91, l32_93, l32_123, l32_125, z1, z2, z3, z7]
    · simp (disch := omega) only [ev_S, ev_P, ↓reduceIte, Nat.reduceEqDiff, Nat.reduceLeDiff, Nat.reduceAdd, Nat.reduceMul, Nat.reduceSub, reduceCtorEq, l32_0, l32_1, l32_2, l32_3, l32_4, l32_5, l32_6, l32_7, l32_8, l32_9, l32_10, l32_11, l32_12, l32_13, l32_14, l32_15, l32_16, l32_17, l32_18, l32_19, l32_20, l32_21, l32_22, l32_23, l32_24, l32_25, l32_26, l32_27, l32_28, l32_29, l32_33, l32_40, l32_41, l32_44, l32_45, l32_59, l32_61, l32_91, l32_93, l32_123, l32_125, z1, z2, z3, z7]
/-- expressions are read alike (with that much fuel) -/
def SX (N : Nat) (X : Nat → Option zz_C) (b : Nat → Nat) (n p e F : Nat) : Prop := ∀ l i op D code vs cl W cu fs al t s, l ≤ 4 → PE b n p e i op D code code vs cl W cu fs t s → rWn s → HW l W → W.length ≤ 6 * op + l → (al = 0 ∨ ¬ W = []) → 10 * (10 - op) + (10 - l) ≤ F → 1 ≤ D → RX N b n p e l i op D code W cu fs al t s (cf_S0 N X F 186 [.int (Int32.ofNat l)] t)
/-- what is asked of a list -/
def okQ (q a least most : Nat) : Prop := (q = 5 ∨ q = 6 ∨ q = 7) ∧ (q = 7 → a < 28 ∧ least = wlo (a + 11) ∧ most = whi (a + 11)) ∧ (¬ q = 7 → least = 0 ∧ most = 2000)
/-- a list's rounds -/
theorem p_listL {F q a least most pl np : Nat} {nm : Int64} (hN : 170000 ≤ N) (hSX : SX N X b n p e F) (hQ : okQ q a least most) (ho1 : 1 ≤ op) (hF : 10 * (10 - op) + 10 ≤ F) (hWl : W.length + 1 ≤ 6 * op) : ∀ (d i D : Nat) (code code1 : List Ins) (vs : List (List Nat)) (cl : List Cn) (Z : List (Nat × Nat)) (ah : Option (Nat × Nat)) (t : cS) (s : mS) (c m Q : Nat), (TL b n).length ≤ i + d → PE b n p e i op D code code1 vs cl (W ++ [(q, a, c, pl, nm, np)] ++ Z.map bt ++ ahW ah) (List.replicate (c + 1) 0 ++ cu) fs t s → rWn s → code = code1 ++ ahI ah ++ Z.reverse.map twI → okA ah → (∀ z ∈ Z, okS z.1 ∧ lv z.1 ≤ 3) → (∀ hi : i < (TL b n).length, PZ 0 Z (TL b n)[i].1) → c + 1 ≤ i → m ≤ i → c + 1 ≤ most → d < Q → 1 ≤ D → (∃ t' s1 c' i' seg vs' cl' k, cf_194_L8 N X (cf_S0 N X F) Q 0 (Int32.ofNat (if q = 5 then 93 else 41)) (Int32.ofNat least) (Int32.ofNat most) (Int32.ofNat (c + 1)) (Int32.ofNat m) t = some (t', .inl (some (.int (Int32.ofNat c')))) ∧ i < i' ∧ k + i ≤ i' ∧ PE b n p e i' (op - 1) (D + (c' - c)) (code ++ seg) (code ++ seg) vs' cl' W (List.replicate c' 0 ++ cu) fs t' s1 ∧ slt s1 W.length (q, a, c', pl, nm, np) ∧ (least ≤ c' ∧ c + 1 ≤ c') ∧ c' ≤ most ∧ FR p e t t' s s1 ∧ ∀ s2, E2 N q W.length (Int32.ofNat c') s1 = some (s2, some (.int (Int32.ofNat 1))) → ∀ f, LL N (f + k) al (Int32.ofNat 1) s = LL N f al (Int32.ofNat 1) s2) ∨ FLT N b n p e i al (Int32.ofNat 1) t s (cf_194_L8 N X (cf_S0 N X F) Q 0 (Int32.ofNat (if q = 5 then 93 else 41)) (Int32.ofNat least) (Int32.ofNat most) (Int32.ofNat (c + 1)) (Int32.ofNat m) t) := by
  have eL : ∀ Q x2 x3 x4 x5 x6 t, cf_194_L8 N X (cf_S0 N X F) (Q + 1) 0 x2 x3 x4 x5 x6 t = cf_194_30 N X (cf_S0 N X F) (cf_194_L8 N X (cf_S0 N X F) Q) x2 x3 x4 x5 x6 t := fun _ _ _ _ _ _ _ => rfl
  have hlast : (if q = 5 then 93 else 41) < 100 := by split <;> decide
  intro d
  induction d with
  | zero =>
    intro i D code code1 vs cl Z ah t s c m Q hd h
    obtain ⟨hi, _⟩ := h.1.now
    omega
  | succ d ih =>
    intro i D code code1 vs cl Z ah t s c m Q hd h hwn hf hA hz hk hci hmi hcm hdQ hD1
    obtain ⟨Q, rfl⟩ : ∃ Q', Q = Q' + 1 := ⟨Q - 1, by omega⟩
    obtain ⟨hi, e5, e6, e7, hkk, ho, he, hlt, hll⟩ := h.1.now
    have hmost : most ≤ 2000 := by
      rcases hQ.1 with z | z | z
      · rw [(hQ.2.2 (by omega)).2]; exact Nat.le_refl _
      · rw [(hQ.2.2 (by omega)).2]; exact Nat.le_refl _
      · rw [(hQ.2.1 z).2.2]
        unfold whi wnt
        repeat' split
        all_goals omega
    have hHW : ∀ k, HW 0 (W ++ [(q, a, k, pl, nm, np)]) := fun k => Or.inr ⟨W, _, rfl, Or.inl (by have := hQ.1; show 3 ≤ q; omega)⟩
    have hne : ∀ k, al = 0 ∨ ¬ (W ++ [(q, a, k, pl, nm, np)]) = [] := fun k => Or.inr (by simp)
    obtain ⟨s1, a1, a2, a3⟩ := PE.flu (N := N) (al := al) hN h hf hA hz hk (hHW c) (hne c)
    have w1 : rWn s1 := hwn.kp a3.2
    have a1' : ∀ f, LL N (f + 1) al (Int32.ofNat 1) s = mo_bi (mf_288 N s1) (fun s1 y => LL N f al y s1) := fun f => by
      rw [a1 f]
      exact L215 a2.2.2.2.2.1
    obtain ⟨s2, b1, b2, hi', b3⟩ := PE.e1 (N := N) a2 w1 hQ.1 (fun z => (hQ.2.1 z).1) (show c < 2000 by omega)
    have cnt : cf_41 N X t = some (t, .inl (some (.int (Int32.ofNat (TL b n).length)))) := by rw [c_count, h.1.cnt]
    have kn : cf_42 N X t = some (t, .inl (some (.int (Int32.ofNat (ck (TL b n)[i]))))) := by rw [c_kindNow, e5]
    have ff : cf_202 N X (Int32.ofNat 1) (Int32.ofNat 5) t = some (t, .inl none) := c_fine
    have hck : ck (TL b n)[i] = 44 ↔ (TL b n)[i].1 = 44 := ck_sg (by decide)
    rcases b3 with ⟨⟨z1, z2⟩, z3⟩ | ⟨⟨z1, z2, z2'⟩, z3⟩ | ⟨z1, z3⟩
    · -- a comma
      have k44 := hck.mpr z1
      have hcm2 : c + 1 < most := by
        by_cases y : q = 7
        · rw [(hQ.2.1 y).2.2]
          exact z2 y
        · rw [(hQ.2.2 y).2]
          omega
      obtain ⟨t3, s3, d1, d2, d3, d4, d5⟩ := b1.adv (N := N) (X := X) hN (fun _ => by omega)
      have w3 : rWn s3 := (w1.kp b2.2).kp d5
      have sx := hSX 0 (i + 1) op (D + 1) code vs cl (W ++ [(q, a, c + 1, pl, nm, np)]) (List.replicate (c + 1) 0 ++ cu) fs al t3 s3 (by decide) (d3.dn (by omega)) w3 (hHW _) (by rw [List.length_append]; exact hWl) (hne _) hF (by omega)
      have hLL : ∀ f, LL N (f + 1) al (Int32.ofNat 1) s = LL N f al (Int32.ofNat 0) s3 := fun f => by
        rw [a1' f, z3, d2]
        rfl
      have hFR : FR p e t t3 s s3 := a3.tr (b2.tr ⟨d4, d5⟩)
      have hC : cf_194_L8 N X (cf_S0 N X F) (Q + 1) 0 (Int32.ofNat (if q = 5 then 93 else 41)) (Int32.ofNat least) (Int32.ofNat most) (Int32.ofNat (c + 1)) (Int32.ofNat m) t = ko_call 5 (cf_S0 N X F 186 [.int (Int32.ofNat 0)] t3) (fun g1 v1 => co_v v1 (cf_194_L8 N X (cf_S0 N X F) Q 0 (Int32.ofNat (if q = 5 then 93 else 41)) (Int32.ofNat least) (Int32.ofNat most) (Int32.ofNat (c + 1 + 1)) (Int32.ofNat (m + 1)) g1)) := by
        rw [eL]
        unfold cf_194_30 cf_194_39 cf_194_42 cf_194_49 cf_194_54 cf_194_62 cf_194_67 cf_194_71 cf_194_78 cf_194_83
        simp (disch := omega) only [ev_S, ev_C, ↓reduceIte, Nat.reduceEqDiff, Nat.reduceLeDiff, Nat.reduceAdd, Nat.reduceMul, Nat.reduceSub, reduceCtorEq, l32_0, l32_1, l32_2, l32_3, l32_4, l32_5, l32_6, l32_7, l32_8, l32_9, l32_10, l32_11, l32_12, l32_13, l32_14, l32_15, l32_16, l32_17, l32_18, l32_19, l32_20, l32_21, l32_22, l32_23, l32_24, l32_25, l32_26, l32_27, l32_28, l32_29, l32_33, l32_40, l32_41, l32_44, l32_45, l32_59, l32_61, l32_91, l32_93, l32_123, l32_125, cnt, kn, k44, ff, d1, hcm2]
      rw [hC]
      rcases sx with ⟨t4, s4, k4, i4, seg4, code4, vs4, cl4, Z4, ah4, x1, x2, x3, x4, x5, x6, x7, x8, x9, x10⟩ | ⟨t4, s4, k4, x1, x2, x3, x4, x5⟩
      · rw [x1]
        have w4 : rWn s4 := w3.kp x10.2
        rcases ih i4 (D + 1) (code ++ seg4) code4 vs4 cl4 Z4 ah4 t4 s4 (c + 1) (m + 1) Q (by omega) x5 w4 x6 x7 (fun z hh => ⟨(x8 z hh).1, (x8 z hh).2.2⟩) x9 (by omega) (by omega) (by omega) (by omega) (by omega) with ⟨t', s5, c', i', seg, vs', cl', k, y1, y2, y3, y4, y5, y6, y7, y8, y9⟩ | ⟨t', s', k, y1, y2, y3, y4, y5⟩
        · refine Or.inl ⟨t', s5, c', i', seg4 ++ seg, vs', cl', k + k4 + 1, ?_, by omega, by omega, by rw [← List.append_assoc]; exact PE.dn y4 (by omega), y5, ⟨y6.1, by omega⟩, y7, hFR.tr (x10.tr y8), fun s6 he2 f => ?_⟩
          · exact y1
          · rw [show f + (k + k4 + 1) = (f + k + k4) + 1 by omega, hLL, x4]
            exact y9 s6 he2 f
        · refine Or.inr ⟨t', s', k + k4 + 1, y1, by omega, fun f => ?_, y4, hFR.pre (x10.pre y5)⟩
          rw [show f + (k + k4 + 1) = (f + k + k4) + 1 by omega, hLL, x4]
          exact y3 f
      · refine Or.inr ⟨t4, s4, k4 + 1, by rw [x1]; rfl, by omega, fun f => ?_, x4, hFR.pre x5⟩
        rw [show f + (k4 + 1) = (f + k4) + 1 by omega, hLL]
        exact x3 f
    · -- too many
      have k44 := hck.mpr z1
      have z2 : q = 7 := z2
      have z2' : whi (a + 11) ≤ c + 1 := z2'
      have hm2 := (hQ.2.1 z2).2.2
      obtain ⟨t', c1, hi2, c2, c3, c4, c5⟩ := b1.ft (N := N) (X := X) (x := 5) (by omega) (fun _ => by omega)
      have c1' : cf_202 N X (Int32.ofNat 0) (Int32.ofNat 5) t = some (t', .inr ()) := c1
      refine Or.inr ⟨t', _, 2, ?_, by omega, fun f => ?_, c4, a3.pre (b2.pre c5)⟩
      · rw [eL]
        unfold cf_194_30 cf_194_39 cf_194_42 cf_194_49 cf_194_54 cf_194_66 cf_194_67
        simp (disch := omega) only [ev_S, ev_C, ↓reduceIte, Nat.reduceEqDiff, Nat.reduceLeDiff, Nat.reduceAdd, Nat.reduceMul, Nat.reduceSub, reduceCtorEq, l32_0, l32_1, l32_2, l32_3, l32_4, l32_5, l32_6, l32_7, l32_8, l32_9, l32_10, l32_11, l32_12, l32_13, l32_14, l32_15, l32_16, l32_17, l32_18, l32_19, l32_20, l32_21, l32_22, l32_23, l32_24, l32_25, l32_26, l32_27, l32_28, l32_29, l32_33, l32_40, l32_41, l32_44, l32_45, l32_59, l32_61, l32_91, l32_93, l32_123, l32_125, cnt, kn, k44, c1']
        rfl
      · rw [show f + 2 = (f + 1) + 1 by omega, a1', z3, c3, c2]
        exact LL_f (N := N) (x := 5) rfl (by omega)
    · -- the end
      have k44 : ¬ ck (TL b n)[i] = 44 := fun y => z1 (hck.mp y)
      have w2 : rWn s2 := w1.kp b2.2
      have hC : cf_194_L8 N X (cf_S0 N X F) (Q + 1) 0 (Int32.ofNat (if q = 5 then 93 else 41)) (Int32.ofNat least) (Int32.ofNat most) (Int32.ofNat (c + 1)) (Int32.ofNat m) t = cf_194_92 N X (cf_S0 N X F) (Int32.ofNat (if q = 5 then 93 else 41)) (Int32.ofNat least) (Int32.ofNat (c + 1)) t := by
        rw [eL]
        unfold cf_194_30 cf_194_39 cf_194_42 cf_194_49
        simp (disch := omega) only [ev_S, ev_C, ↓reduceIte, Nat.reduceEqDiff, Nat.reduceLeDiff, Nat.reduceAdd, Nat.reduceMul, Nat.reduceSub, reduceCtorEq, l32_0, l32_1, l32_2, l32_3, l32_4, l32_5, l32_6, l32_7, l32_8, l32_9, l32_10, l32_11, l32_12, l32_13, l32_14, l32_15, l32_16, l32_17, l32_18, l32_19, l32_20, l32_21, l32_22, l32_23, l32_24, l32_25, l32_26, l32_27, l32_28, l32_29, l32_33, l32_40, l32_41, l32_44, l32_45, l32_59, l32_61, l32_91, l32_93, l32_123, l32_125, cnt, kn, k44]
      rw [hC]
      rcases PE.en (N := N) (X := X) (rk := cf_S0 N X F) (q := q) (c := c + 1) (least := least) hN b1 w2 rfl hQ.1 rfl (by omega) ho1 ⟨fun y => (hQ.2.2 y).1, fun y => ⟨(hQ.2.1 y).1, (hQ.2.1 y).2.1, by have := (hQ.2.1 y).2.2; show c + 1 ≤ whi (a + 11); omega⟩⟩ with ⟨t', s', y1, y2, y3, y4, y5, y6⟩ | ⟨t', s', y1, y2, y3, y4⟩
      · refine Or.inl ⟨t', s', c + 1, i + 1, [], vs, cl, 1, y1, by omega, by omega, by rw [List.append_nil]; exact PE.dn y3 (by omega), y4, ⟨y5, Nat.le_refl _⟩, hcm, a3.tr (b2.tr y6), fun s6 he2 f => ?_⟩
        rw [a1', z3, y2, he2]
        rfl
      · obtain ⟨x, y, v1, v2, v3, v4, v5, v6, v7⟩ := y3
        refine Or.inr ⟨t', s', 2, y1, by omega, fun f => ?_, ⟨x, y, v1, v2, v3, v4, v5, v6, v7⟩, a3.pre (b2.pre y4)⟩
        rw [show f + 2 = (f + 1) + 1 by omega, a1', z3, y2]
        exact LL_f (N := N) v6 ⟨v1, v2⟩
end LIS
