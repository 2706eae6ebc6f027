/-! ===== PURE: the reference's rounds over an expression (2): a sign, the end ===== -/
section RNE
variable {N : Nat} {X : Nat → Option zz_C} {t t' : cS} {s s' : mS} {b : Nat → Nat} {n p e i op D : Nat} {code code1 code2 fl : List Ins} {vs : List (List Nat)} {cl : List Cn} {W W' : List Wt} {cu : List Nat} {fs : Nat × Nat × Nat} {al : Int32} {Z : List (Nat × Nat)} {ah : Option (Nat × Nat)}
theorem w_last {w : Wt} (h : rW s (W ++ [w])) : s.1 44 = Int32.ofNat (W.length + 1) ∧ W.length + 1 ≤ 80 ∧ s.2.2.1 38 W.length = Int32.ofNat w.1 ∧ s.2.2.1 39 W.length = Int32.ofNat w.2.1 ∧ s.2.2.1 40 W.length = Int32.ofNat w.2.2.1 ∧ s.2.2.1 41 W.length = Int32.ofNat w.2.2.2.1 ∧ w.1 ≤ 8 ∧ (6 ≤ w.1 → s.2.2.2 42 W.length = w.2.2.2.2.1 ∧ s.2.2.1 43 W.length = Int32.ofNat w.2.2.2.2.2) := by
  obtain ⟨h1, h2, h3⟩ := h
  have ll : (W ++ [w]).length = W.length + 1 := List.length_append
  rw [ll] at h1 h2
  have h4 := h3 W.length (by rw [ll]; omega)
  rw [List.getElem_append_right (Nat.le_refl _)] at h4
  simp only [Nat.sub_self, List.getElem_cons_zero] at h4
  exact ⟨h1, h2, h4⟩
/-- a sign between -/
theorem PE.sg {l : Nat} (hN : 170000 ≤ N) (h : PE b n p e i op D code code1 vs cl (W ++ Z.map bt) cu fs t s) (hl : l ≤ 3) (hk : ∀ hi : i < (TL b n).length, lv (TL b n)[i].1 = l) (hs : HW l W) (hz : ∀ z ∈ Z, okS z.1 ∧ l ≤ lv z.1 ∧ lv z.1 ≤ 3 ∧ (l = 1 → 2 ≤ lv z.1)) (hf : code = code1 ++ Z.reverse.map twI) (hW8 : W.length < 80) : ∃ t' s', cf_46 N X t = some (t', .inl none) ∧ (∀ f, mf_285_113 N (mf_285_L3 N f) al s = LL N f al 0 s') ∧ (∃ hi : i < (TL b n).length, PE b n p e (i + 1) op (D + 1) code code vs cl (W ++ [bt ((TL b n)[i].1, (TL b n)[i].2.2.2.1)]) cu fs t' s') ∧ FR p e t t' s s' := by
  obtain ⟨hi, e5, e6, e7, hkk, ho, he, hlt, hll⟩ := h.1.now
  have hk := hk hi
  have hsg : 33 ≤ (TL b n)[i].1 := by
    unfold lv at hk
    repeat' split at hk
    all_goals omega
  have hok := TL_sg hi hsg
  obtain ⟨x1, x2, x3, x4, x5, x6⟩ : s.1 6 = Int32.ofNat (TL b n)[i].2.2.2.1 ∧ s.1 8 = Int32.ofNat (TL b n)[i].2.2.2.2 ∧ 33 ≤ (TL b n)[i].1 ∧ (TL b n)[i].1 < 512 ∧ s.1 5 = Int32.ofNat 3 ∧ s.2.1 7 = Int64.ofNat (sgv (TL b n)[i].1) := by
    obtain ⟨y1, y2, y3 | y3 | y3 | y3 | y3⟩ := hkk
    · omega
    · omega
    · omega
    · omega
    · exact ⟨y1, y2, y3.1, y3.2.1, y3.2.2.1, y3.2.2.2⟩
  have l0 := r_levelOf (N := N) (s := s) hok
  have el : lvI (TL b n)[i].1 = Int32.ofNat l := by
    unfold lvI
    rw [hk, if_neg (by omega)]
  rw [el] at l0
  obtain ⟨s1, a1, a2, a3⟩ := PE.rd (N := N) (l := if l = 1 then 2 else l) (fl := []) hN h (by split <;> omega) ((hs.mono (by split <;> omega)).stp) (fun z hh => ⟨(hz z hh).1, by have := (hz z hh).2; split <;> omega, (hz z hh).2.2.1⟩) (by rw [List.append_nil]; exact hf)
  rw [← hf] at a2
  obtain ⟨hi1, _, _, _, hk1, _, _, _, _⟩ := a2.1.now
  obtain ⟨z1, z6⟩ : s1.1 6 = Int32.ofNat (TL b n)[i].2.2.2.1 ∧ s1.2.1 7 = Int64.ofNat (sgv (TL b n)[i].1) := by
    obtain ⟨y1, y2, y3 | y3 | y3 | y3 | y3⟩ := hk1
    · omega
    · omega
    · omega
    · omega
    · exact ⟨y1, y3.2.2.2⟩
  obtain ⟨s2, b1, b2, b3⟩ := r_wait (N := N) (k := 1) (a := sgv (TL b n)[i].1) (p := (TL b n)[i].2.2.2.1) a2.2.2.2.2.1 hW8 (by decide)
  obtain ⟨c1, c2⟩ := a2.wt b2 b3
  obtain ⟨t', s', d1, d2, d3, d4, d5⟩ := c1.adv (N := N) (X := X) hN (fun _ => by omega)
  refine ⟨t', s', d1, fun f => ?_, ⟨hi, d3⟩, a3.tr (c2.tr ⟨d4, d5⟩)⟩
  by_cases c : l = 1
  · subst c
    rw [if_pos rfl] at a1
    have tail : mf_285_161 N (mf_285_L3 N f) al s1 = mf_285_187 N (mf_285_L3 N f) al s1 := by
      rcases hs with rfl | ⟨W', w, rfl, h2 | ⟨z, rfl, h3, h4⟩⟩
      · have i0 := r_isW0 (N := N) (k := 1) a2.2.2.2.2.1
        unfold mf_285_161 mf_285_166
        simp (disch := omega) only [ev_S, ev_P, ↓reduceIte, Nat.reduceEqDiff, Nat.reduceLeDiff, Nat.reduceAdd, Nat.reduceMul, Nat.reduceSub, reduceCtorEq, l32_0, l32_1, l32_2, l32_3, l32_4, l32_5, l32_6, l32_7, l32_8, l32_9, l32_10, i0]
      · have i0 := r_isW (N := N) (k := 1) a2.2.2.2.2.1 (by decide)
        rw [if_neg (by omega)] at i0
        unfold mf_285_161 mf_285_166
        simp (disch := omega) only [ev_S, ev_P, ↓reduceIte, Nat.reduceEqDiff, Nat.reduceLeDiff, Nat.reduceAdd, Nat.reduceMul, Nat.reduceSub, reduceCtorEq, l32_0, l32_1, l32_2, l32_3, l32_4, l32_5, l32_6, l32_7, l32_8, l32_9, l32_10, i0]
      · have i0 := r_isW (N := N) (k := 1) a2.2.2.2.2.1 (by decide)
        rw [if_pos rfl] at i0
        obtain ⟨q0, q1, q2, q3, _⟩ := w_last a2.2.2.2.2.1
        have l1 := r_levelOf (N := N) (s := s1) h3
        have el : lvI z.1 = Int32.ofNat (lv z.1) := if_neg (by omega)
        rw [el] at l1
        unfold mf_285_161 mf_285_166 mf_285_169 mf_285_183
        simp (disch := omega) only [ev_S, ev_P, ↓reduceIte, Nat.reduceEqDiff, Nat.reduceLeDiff, Nat.reduceAdd, Nat.reduceMul, Nat.reduceSub, reduceCtorEq, l32_0, l32_1, l32_2, l32_3, l32_4, l32_5, l32_6, l32_7, l32_8, l32_9, l32_10, i0, q0, q3, l1]
    unfold mf_285_113 mf_285_121 mf_285_129 mf_285_133 mf_285_138 mf_285_144 mf_285_149 mf_285_152 mf_285_156
    simp (disch := omega) only [ev_S, ev_P, ↓reduceIte, Nat.reduceEqDiff, Nat.reduceLeDiff, Nat.reduceAdd, Nat.reduceMul, Nat.reduceSub, reduceCtorEq, l32_0, l32_1, l32_2, l32_3, l32_4, l32_5, l32_6, l32_7, l32_8, l32_9, l32_10, x5, x6, Int64.toInt32_ofNat', l0, a1, tail]
    unfold mf_285_187 mf_285_201 mf_285_205
    simp (disch := omega) only [ev_S, ev_P, ↓reduceIte, Nat.reduceEqDiff, Nat.reduceLeDiff, Nat.reduceAdd, Nat.reduceMul, Nat.reduceSub, reduceCtorEq, l32_0, l32_1, l32_2, l32_3, l32_4, l32_5, l32_6, l32_7, l32_8, l32_9, l32_10, z1, z6, Int64.toInt32_ofNat', b1, d2]
  · rw [if_neg c] at a1
    unfold mf_285_113 mf_285_121 mf_285_129 mf_285_133 mf_285_138 mf_285_148 mf_285_149 mf_285_152 mf_285_156
    simp (disch := omega) only [ev_S, ev_P, ↓reduceIte, Nat.reduceEqDiff, Nat.reduceLeDiff, Nat.reduceAdd, Nat.reduceMul, Nat.reduceSub, reduceCtorEq, l32_0, l32_1, l32_2, l32_3, l32_4, l32_5, l32_6, l32_7, l32_8, l32_9, l32_10, x5, x6, Int64.toInt32_ofNat', l0, a1, c]
    unfold mf_285_187 mf_285_201 mf_285_205
    simp (disch := omega) only [ev_S, ev_P, ↓reduceIte, Nat.reduceEqDiff, Nat.reduceLeDiff, Nat.reduceAdd, Nat.reduceMul, Nat.reduceSub, reduceCtorEq, l32_0, l32_1, l32_2, l32_3, l32_4, l32_5, l32_6, l32_7, l32_8, l32_9, l32_10, z1, z6, Int64.toInt32_ofNat', b1, d2]
/-- a sign of level 1 waits, and only such as bind closer behind it -/
def one1 (Z : List (Nat × Nat)) : Prop := ∃ Z1 z1 Z2, Z = Z1 ++ z1 :: Z2 ∧ lv z1.1 = 1 ∧ ∀ z ∈ Z2, 2 ≤ lv z.1
/-- the end of what an expression's brackets hold -/
theorem PE.fin (hN : 170000 ≤ N) (h : PE b n p e i op D code code1 vs cl (W ++ Z.map bt) cu fs t s) (hk : ∀ hi : i < (TL b n).length, lv (TL b n)[i].1 = 9 ∨ (lv (TL b n)[i].1 = 1 ∧ one1 Z)) (hs : HW 0 W) (hz : ∀ z ∈ Z, okS z.1 ∧ lv z.1 ≤ 3) (hf : code = code1 ++ Z.reverse.map twI) : ∃ s', (∀ rc, mf_285_113 N rc al s = mf_285_215 N rc al s') ∧ PE b n p e i op D code code vs cl W cu fs t s' ∧ FR p e t t s s' := by
  obtain ⟨hi, e5, e6, e7, hkk, ho, he, hlt, hll⟩ := h.1.now
  rcases hk hi with hq | ⟨hq, Z1, z1, Z2, rfl, o1, o2⟩
  · obtain ⟨s1, a1, a2, a3⟩ := PE.rd (N := N) (l := 0) (fl := []) hN h (by decide) hs.stp (fun z hh => ⟨(hz z hh).1, Nat.zero_le _, (hz z hh).2⟩) (by rw [List.append_nil]; exact hf)
    rw [← hf] at a2
    refine ⟨s1, fun rc => ?_, a2, a3⟩
    by_cases c : s.1 5 = Int32.ofNat 3
    · have hsg : 33 ≤ (TL b n)[i].1 ∧ s.2.1 7 = Int64.ofNat (sgv (TL b n)[i].1) := by
        obtain ⟨y1, y2, y3 | y3 | y3 | y3 | y3⟩ := hkk
        · exact absurd (c.symm.trans y3.2) (by decide)
        · exact absurd (c.symm.trans y3.2) (by decide)
        · exact absurd (c.symm.trans y3.2.1) (by decide)
        · exact absurd (c.symm.trans y3.2.1) (by decide)
        · exact ⟨y3.1, y3.2.2.2⟩
      have l0 := r_levelOf (N := N) (s := s) (TL_sg hi hsg.1)
      have el : lvI (TL b n)[i].1 = -Int32.ofNat 1 := if_pos hq
      rw [el] at l0
      have x6 := hsg.2
      have q1 : (-Int32.ofNat 1 < Int32.ofNat 0) = True := by decide
      unfold mf_285_113 mf_285_121 mf_285_129 mf_285_133 mf_285_152 mf_285_210
      simp (disch := omega) only [ev_S, ev_P, ↓reduceIte, Nat.reduceEqDiff, Nat.reduceLeDiff, Nat.reduceAdd, Nat.reduceMul, Nat.reduceSub, reduceCtorEq, l32_0, l32_1, l32_2, l32_3, l32_4, l32_5, l32_6, l32_7, l32_8, l32_9, l32_10, c, x6, Int64.toInt32_ofNat', l0, q1, a1]
    · have q1 : (-Int32.ofNat 1 < Int32.ofNat 0) = True := by decide
      unfold mf_285_113 mf_285_132 mf_285_133 mf_285_152 mf_285_210
      simp (disch := omega) only [ev_S, ev_P, ↓reduceIte, Nat.reduceEqDiff, Nat.reduceLeDiff, Nat.reduceAdd, Nat.reduceMul, Nat.reduceSub, reduceCtorEq, l32_0, l32_1, l32_2, l32_3, l32_4, l32_5, l32_6, l32_7, l32_8, l32_9, l32_10, c, q1, a1]
  · have hsg : 33 ≤ (TL b n)[i].1 := by
      unfold lv at hq
      repeat' split at hq
      all_goals omega
    obtain ⟨x5, x6⟩ : s.1 5 = Int32.ofNat 3 ∧ s.2.1 7 = Int64.ofNat (sgv (TL b n)[i].1) := by
      obtain ⟨y1, y2, y3 | y3 | y3 | y3 | y3⟩ := hkk
      · omega
      · omega
      · omega
      · omega
      · exact ⟨y3.2.2.1, y3.2.2.2⟩
    have l0 := r_levelOf (N := N) (s := s) (TL_sg hi hsg)
    have el : lvI (TL b n)[i].1 = Int32.ofNat 1 := by
      unfold lvI
      rw [hq, if_neg (by decide)]
    rw [el] at l0
    have hz1 := hz z1 (by simp)
    have eW : W ++ (Z1 ++ z1 :: Z2).map bt = ((W ++ Z1.map bt) ++ [bt z1]) ++ Z2.map bt := by simp
    have eC : (Z1 ++ z1 :: Z2).reverse.map twI = Z2.reverse.map twI ++ (Z1 ++ [z1]).reverse.map twI := by simp
    rw [eW] at h
    rw [eC] at hf
    obtain ⟨s1, a1, a2, a3⟩ := PE.rd (N := N) (l := 2) (fl := (Z1 ++ [z1]).reverse.map twI) hN h (by decide) (Or.inr ⟨W ++ Z1.map bt, bt z1, rfl, Or.inr ⟨z1, rfl, hz1.1, by omega⟩⟩) (fun z hh => ⟨(hz z (by simp [hh])).1, o2 z hh, (hz z (by simp [hh])).2⟩) (by rw [hf, List.append_assoc])
    have i0 := r_isW (N := N) (k := 1) a2.2.2.2.2.1 (by decide)
    rw [if_pos rfl] at i0
    obtain ⟨q0, q1, q2, q3, _⟩ := w_last a2.2.2.2.2.1
    have l1 := r_levelOf (N := N) (s := s1) hz1.1
    have el1 : lvI z1.1 = Int32.ofNat 1 := by
      unfold lvI
      rw [o1, if_neg (by decide)]
    rw [el1] at l1
    have eW2 : (W ++ Z1.map bt) ++ [bt z1] = W ++ (Z1 ++ [z1]).map bt := by simp
    rw [eW2] at a2
    have ll0 : (W ++ Z1.map bt).length = W.length + Z1.length := by simp
    obtain ⟨s2, b1, b2, b3⟩ := PE.rd (N := N) (l := 0) (fl := []) hN a2 (by decide) hs.stp (fun z hh => ⟨(hz z (by simp at hh ⊢; rcases hh with x | x; exact Or.inl x; exact Or.inr (Or.inl x))).1, Nat.zero_le _, (hz z (by simp at hh ⊢; rcases hh with x | x; exact Or.inl x; exact Or.inr (Or.inl x))).2⟩) (by rw [List.append_nil, hf, List.append_assoc])
    rw [List.append_assoc, ← hf] at b2
    refine ⟨s2, fun rc => ?_, b2, a3.tr b3⟩
    unfold mf_285_113 mf_285_121 mf_285_129 mf_285_133 mf_285_138 mf_285_144 mf_285_149 mf_285_152 mf_285_156 mf_285_161 mf_285_166 mf_285_169 mf_285_183 mf_285_210
    simp (disch := omega) only [ev_S, ev_P, ↓reduceIte, Nat.reduceEqDiff, Nat.reduceLeDiff, Nat.reduceAdd, Nat.reduceMul, Nat.reduceSub, reduceCtorEq, l32_0, l32_1, l32_2, l32_3, l32_4, l32_5, l32_6, l32_7, l32_8, l32_9, l32_10, x5, x6, Int64.toInt32_ofNat', l0, a1, i0, q0, q3, l1, b1]
/-- rounds -/
theorem LL_f {f : Nat} {x : Nat} {h : Int32} (h9 : s.1 9 = Int32.ofNat x) (hx : 1 ≤ x ∧ x ≤ 6) : LL N (f + 1) al h s = some (s, none) := by
  show mf_285_7 N (mf_285_L3 N f) al h s = _
  unfold mf_285_7 mf_285_231
  simp (disch := omega) only [ev_S, ev_P, ↓reduceIte, Nat.reduceEqDiff, Nat.reduceLeDiff, Nat.reduceAdd, Nat.reduceMul, Nat.reduceSub, reduceCtorEq, l32_0, l32_1, l32_2, l32_3, l32_4, l32_5, l32_6, l32_7, l32_8, l32_9, l32_10, h9]
theorem LL_0 {f : Nat} (h9 : s.1 9 = Int32.ofNat 0) : LL N (f + 1) al (Int32.ofNat 0) s = mo_bi (mf_286 N s) (fun s1 y => LL N f al y s1) := by
  show mf_285_7 N (mf_285_L3 N f) al (Int32.ofNat 0) s = _
  unfold mf_285_7 mf_285_14 mf_285_18
  simp (disch := omega) only [ev_S, ev_P, ↓reduceIte, Nat.reduceEqDiff, Nat.reduceLeDiff, Nat.reduceAdd, Nat.reduceMul, Nat.reduceSub, reduceCtorEq, l32_0, l32_1, l32_2, l32_3, l32_4, l32_5, l32_6, l32_7, l32_8, l32_9, l32_10, h9]
  rfl
theorem LL_1 {f : Nat} (h9 : s.1 9 = Int32.ofNat 0) (ha : al = 0 ∨ ¬ s.1 44 = Int32.ofNat 0) : LL N (f + 1) al (Int32.ofNat 1) s = mf_285_38 N (mf_285_L3 N f) al s := by
  show mf_285_7 N (mf_285_L3 N f) al (Int32.ofNat 1) s = _
  unfold mf_285_7 mf_285_14 mf_285_26 mf_285_30
  rcases ha with rfl | ha
  · simp (disch := omega) only [ev_S, ev_P, ↓reduceIte, Nat.reduceEqDiff, Nat.reduceLeDiff, Nat.reduceAdd, Nat.reduceMul, Nat.reduceSub, reduceCtorEq, l32_0, l32_1, l32_2, l32_3, l32_4, l32_5, l32_6, l32_7, l32_8, l32_9, l32_10, h9]
  · simp (disch := omega) only [ev_S, ev_P, ↓reduceIte, Nat.reduceEqDiff, Nat.reduceLeDiff, Nat.reduceAdd, Nat.reduceMul, Nat.reduceSub, reduceCtorEq, l32_0, l32_1, l32_2, l32_3, l32_4, l32_5, l32_6, l32_7, l32_8, l32_9, l32_10, h9, ha]
    split <;> rfl
theorem LL_2 {f : Nat} (h9 : s.1 9 = Int32.ofNat 0) (ha : ¬ al = 0) (h44 : s.1 44 = Int32.ofNat 0) : LL N (f + 1) al (Int32.ofNat 1) s = some (s, none) := by
  show mf_285_7 N (mf_285_L3 N f) al (Int32.ofNat 1) s = _
  have ha : ¬ al = Int32.ofNat 0 := ha
  unfold mf_285_7 mf_285_14 mf_285_26 mf_285_30 mf_285_37
  simp (disch := omega) only [ev_S, ev_P, ↓reduceIte, Nat.reduceEqDiff, Nat.reduceLeDiff, Nat.reduceAdd, Nat.reduceMul, Nat.reduceSub, reduceCtorEq, l32_0, l32_1, l32_2, l32_3, l32_4, l32_5, l32_6, l32_7, l32_8, l32_9, l32_10, h9, h44, ha]
end RNE
