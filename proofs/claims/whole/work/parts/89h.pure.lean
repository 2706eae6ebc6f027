/-! ===== PURE: both sides pass signs and words (2) ===== -/
section PAT
variable {N : Nat} {X : Nat → Option zz_C} {t : cS} {s : mS} {b : Nat → Nat} {n i op : Nat}
theorem pR.oI {x : Nat} (h : pR b n i op t s) (hx : x ≤ 10) : pR b n i x (jI t 2 2 (Int32.ofNat x)) (mI s 11 (Int32.ofNat x)) := by
  obtain ⟨h1, h2, h3, h4, h5, h6, h7, h8, h9, h10⟩ := h
  exact ⟨h1, h2, ⟨rfl, h3.2.1, h3.2.2⟩, hx, h5, h6, h7, h8, rfl, h10⟩
theorem gL_oI {x : Int32} : gL eP a0 t (jI t 2 2 x) := ⟨fun k f r => if_neg (by omega), fun _ _ _ => rfl, fun _ _ _ => ⟨rfl, rfl, rfl⟩, rfl, rfl, Nat.le_refl _, Nat.le_refl _, Nat.le_refl _⟩
theorem fPs_oI {x : Int32} : fPs s (mI s 11 x) := ⟨fun q r => if_neg (by omega), fun _ _ => rfl, fun _ _ => rfl, fun _ _ => rfl⟩
/-- a sign that opens nothing -/
theorem p_sign {c : Nat} (hN : 170000 ≤ N) (h : pR b n i op t s) (hc : c = 41 ∨ c = 93 ∨ c = 125 ∨ c = 59 ∨ c = 44 ∨ c = 61) (ho1 : c = 41 ∨ c = 93 ∨ c = 125 → 1 ≤ op) : (∃ t' s', cf_201 N X (Int32.ofNat c) t = some (t', .inl none) ∧ mf_267 N (Int32.ofNat c) s = some (s', none) ∧ (∃ hi : i < (TL b n).length, (TL b n)[i].1 = c) ∧ pR b n (i + 1) (if c = 41 ∨ c = 93 ∨ c = 125 then op - 1 else op) t' s' ∧ gL eP a0 t t' ∧ fPs s s') ∨ (∃ t' s', cf_201 N X (Int32.ofNat c) t = some (t', .inr ()) ∧ mf_267 N (Int32.ofNat c) s = some (s', none) ∧ pF t' s' ∧ gX eP a0 t t' ∧ fPs s s') := by
  obtain ⟨hi, e5, e6, e7, hk, ho, he, hlt, hll⟩ := h.now
  have h9 : s.1 9 = Int32.ofNat 0 := h.2.2.2.2.2.2.2.2.2
  have h2 := h.2.2.1.1
  have h11 := h.2.2.2.2.2.2.2.2.1
  have h10 := h.2.2.2.1
  have e42 : cf_42 N X t = some (t, .inl (some (.int (Int32.ofNat (ck (TL b n)[i]))))) := by
    repeat ((first | unfold cf_42 | unfold cf_42_0); try simp (disch := omega) only [ev_S, ev_C, ↓reduceIte, Nat.reduceEqDiff, Nat.reduceLeDiff, Nat.reduceAdd, Nat.reduceMul, Nat.reduceSub, reduceCtorEq, l32_0, l32_1, l32_2, l32_3, l32_4, l32_5, e5])
  have is := r_isSign (N := N) (c := c) hk (by omega) (by omega)
  by_cases e : (TL b n)[i].1 = c
  · left
    rw [if_pos e] at is
    have ec := (ck_sg (k := (TL b n)[i]) (c := c) (by omega)).mpr e
    rw [ec] at e42
    by_cases cl : c = 41 ∨ c = 93 ∨ c = 125
    · rw [if_pos cl]
      have h1 := ho1 cl
      obtain ⟨t', s', a1, a2, a3, a4, a5⟩ := p_adv (N := N) (X := X) hN (h.oI (x := op - 1) (by omega)) (fun _ => by show 2 ≤ (TL b n)[i].1; omega)
      refine ⟨t', s', ?_, ?_, ⟨hi, e⟩, a3, gL.tr (t1 := jI t 2 2 (Int32.ofNat (op - 1))) gL_oI a4, mfr.tr (s1 := mI s 11 (Int32.ofNat (op - 1))) fPs_oI a5⟩
      · rcases cl with rfl | rfl | rfl
        · repeat ((first | unfold cf_201 | unfold cf_201_0 | unfold cf_201_8 | unfold cf_201_12 | unfold cf_201_16 | unfold cf_201_17 | unfold cf_201_21 | unfold cf_201_27 | unfold cf_201_33 | unfold cf_201_39 | unfold cf_201_49 | unfold cf_201_53 | unfold cf_201_54 | unfold cf_201_58 | unfold cf_201_71 | unfold cf_201_77 | unfold cf_201_83 | unfold cf_201_89 | unfold cf_201_99 | unfold cf_201_106); try simp (disch := omega) only [ev_S, ev_C, ↓reduceIte, Nat.reduceEqDiff, Nat.reduceLeDiff, Nat.reduceAdd, Nat.reduceMul, Nat.reduceSub, reduceCtorEq, l32_0, l32_1, l32_2, l32_3, l32_4, l32_5, l32_10, l32_40, l32_41, l32_91, l32_93, l32_123, l32_125, e42, c_fine, h2, a1])
        · repeat ((first | unfold cf_201 | unfold cf_201_0 | unfold cf_201_8 | unfold cf_201_12 | unfold cf_201_16 | unfold cf_201_17 | unfold cf_201_21 | unfold cf_201_27 | unfold cf_201_33 | unfold cf_201_39 | unfold cf_201_49 | unfold cf_201_53 | unfold cf_201_54 | unfold cf_201_58 | unfold cf_201_71 | unfold cf_201_77 | unfold cf_201_83 | unfold cf_201_89 | unfold cf_201_99 | unfold cf_201_106); try simp (disch := omega) only [ev_S, ev_C, ↓reduceIte, Nat.reduceEqDiff, Nat.reduceLeDiff, Nat.reduceAdd, Nat.reduceMul, Nat.reduceSub, reduceCtorEq, l32_0, l32_1, l32_2, l32_3, l32_4, l32_5, l32_10, l32_40, l32_41, l32_91, l32_93, l32_123, l32_125, e42, c_fine, h2, a1])
        · repeat ((first | unfold cf_201 | unfold cf_201_0 | unfold cf_201_8 | unfold cf_201_12 | unfold cf_201_16 | unfold cf_201_17 | unfold cf_201_21 | unfold cf_201_27 | unfold cf_201_33 | unfold cf_201_39 | unfold cf_201_49 | unfold cf_201_53 | unfold cf_201_54 | unfold cf_201_58 | unfold cf_201_71 | unfold cf_201_77 | unfold cf_201_83 | unfold cf_201_89 | unfold cf_201_99 | unfold cf_201_106); try simp (disch := omega) only [ev_S, ev_C, ↓reduceIte, Nat.reduceEqDiff, Nat.reduceLeDiff, Nat.reduceAdd, Nat.reduceMul, Nat.reduceSub, reduceCtorEq, l32_0, l32_1, l32_2, l32_3, l32_4, l32_5, l32_10, l32_40, l32_41, l32_91, l32_93, l32_123, l32_125, e42, c_fine, h2, a1, l32_125, l32_123])
      · rcases cl with rfl | rfl | rfl
        · repeat ((first | unfold mf_267 | unfold mf_267_0 | unfold mf_267_7 | unfold mf_267_8 | unfold mf_267_13 | unfold mf_267_16 | unfold mf_267_22 | unfold mf_267_28 | unfold mf_267_34 | unfold mf_267_44 | unfold mf_267_48 | unfold mf_267_51 | unfold mf_267_55); try simp (disch := omega) only [ev_S, ev_P, ↓reduceIte, Nat.reduceEqDiff, Nat.reduceLeDiff, Nat.reduceAdd, Nat.reduceMul, Nat.reduceSub, reduceCtorEq, l32_0, l32_1, l32_2, l32_3, l32_4, l32_9, l32_11, l32_41, l32_93, l32_125, h9, is, h11, a2])
        · repeat ((first | unfold mf_267 | unfold mf_267_0 | unfold mf_267_7 | unfold mf_267_8 | unfold mf_267_13 | unfold mf_267_16 | unfold mf_267_22 | unfold mf_267_28 | unfold mf_267_34 | unfold mf_267_44 | unfold mf_267_48 | unfold mf_267_51 | unfold mf_267_55); try simp (disch := omega) only [ev_S, ev_P, ↓reduceIte, Nat.reduceEqDiff, Nat.reduceLeDiff, Nat.reduceAdd, Nat.reduceMul, Nat.reduceSub, reduceCtorEq, l32_0, l32_1, l32_2, l32_3, l32_4, l32_9, l32_11, l32_41, l32_93, l32_125, h9, is, h11, a2])
        · repeat ((first | unfold mf_267 | unfold mf_267_0 | unfold mf_267_7 | unfold mf_267_8 | unfold mf_267_13 | unfold mf_267_16 | unfold mf_267_22 | unfold mf_267_28 | unfold mf_267_34 | unfold mf_267_44 | unfold mf_267_48 | unfold mf_267_51 | unfold mf_267_55); try simp (disch := omega) only [ev_S, ev_P, ↓reduceIte, Nat.reduceEqDiff, Nat.reduceLeDiff, Nat.reduceAdd, Nat.reduceMul, Nat.reduceSub, reduceCtorEq, l32_0, l32_1, l32_2, l32_3, l32_4, l32_9, l32_11, l32_41, l32_93, l32_125, h9, is, h11, a2, l32_125])
    · rw [if_neg cl]
      obtain ⟨t', s', a1, a2, a3, a4, a5⟩ := p_adv (N := N) (X := X) hN h (fun _ => by show 2 ≤ (TL b n)[i].1; omega)
      refine ⟨t', s', ?_, ?_, ⟨hi, e⟩, a3, a4, a5⟩
      · rcases hc with rfl | rfl | rfl | rfl | rfl | rfl
        · exact absurd (Or.inl rfl) cl
        · exact absurd (Or.inr (Or.inl rfl)) cl
        · exact absurd (Or.inr (Or.inr rfl)) cl
        · repeat ((first | unfold cf_201 | unfold cf_201_0 | unfold cf_201_8 | unfold cf_201_12 | unfold cf_201_16 | unfold cf_201_17 | unfold cf_201_21 | unfold cf_201_27 | unfold cf_201_33 | unfold cf_201_39 | unfold cf_201_49 | unfold cf_201_53 | unfold cf_201_54 | unfold cf_201_58 | unfold cf_201_71 | unfold cf_201_77 | unfold cf_201_83 | unfold cf_201_89 | unfold cf_201_99 | unfold cf_201_106); try simp (disch := omega) only [ev_S, ev_C, ↓reduceIte, Nat.reduceEqDiff, Nat.reduceLeDiff, Nat.reduceAdd, Nat.reduceMul, Nat.reduceSub, reduceCtorEq, l32_0, l32_1, l32_2, l32_3, l32_4, l32_5, l32_10, l32_40, l32_41, l32_91, l32_93, l32_123, l32_125, e42, c_fine, h2, a1])
        · repeat ((first | unfold cf_201 | unfold cf_201_0 | unfold cf_201_8 | unfold cf_201_12 | unfold cf_201_16 | unfold cf_201_17 | unfold cf_201_21 | unfold cf_201_27 | unfold cf_201_33 | unfold cf_201_39 | unfold cf_201_49 | unfold cf_201_53 | unfold cf_201_54 | unfold cf_201_58 | unfold cf_201_71 | unfold cf_201_77 | unfold cf_201_83 | unfold cf_201_89 | unfold cf_201_99 | unfold cf_201_106); try simp (disch := omega) only [ev_S, ev_C, ↓reduceIte, Nat.reduceEqDiff, Nat.reduceLeDiff, Nat.reduceAdd, Nat.reduceMul, Nat.reduceSub, reduceCtorEq, l32_0, l32_1, l32_2, l32_3, l32_4, l32_5, l32_10, l32_40, l32_41, l32_91, l32_93, l32_123, l32_125, e42, c_fine, h2, a1])
        · repeat ((first | unfold cf_201 | unfold cf_201_0 | unfold cf_201_8 | unfold cf_201_12 | unfold cf_201_16 | unfold cf_201_17 | unfold cf_201_21 | unfold cf_201_27 | unfold cf_201_33 | unfold cf_201_39 | unfold cf_201_49 | unfold cf_201_53 | unfold cf_201_54 | unfold cf_201_58 | unfold cf_201_71 | unfold cf_201_77 | unfold cf_201_83 | unfold cf_201_89 | unfold cf_201_99 | unfold cf_201_106); try simp (disch := omega) only [ev_S, ev_C, ↓reduceIte, Nat.reduceEqDiff, Nat.reduceLeDiff, Nat.reduceAdd, Nat.reduceMul, Nat.reduceSub, reduceCtorEq, l32_0, l32_1, l32_2, l32_3, l32_4, l32_5, l32_10, l32_40, l32_41, l32_91, l32_93, l32_123, l32_125, e42, c_fine, h2, a1])
      · rcases hc with rfl | rfl | rfl | rfl | rfl | rfl
        · exact absurd (Or.inl rfl) cl
        · exact absurd (Or.inr (Or.inl rfl)) cl
        · exact absurd (Or.inr (Or.inr rfl)) cl
        · repeat ((first | unfold mf_267 | unfold mf_267_0 | unfold mf_267_7 | unfold mf_267_8 | unfold mf_267_13 | unfold mf_267_16 | unfold mf_267_22 | unfold mf_267_28 | unfold mf_267_34 | unfold mf_267_44 | unfold mf_267_48 | unfold mf_267_51 | unfold mf_267_55); try simp (disch := omega) only [ev_S, ev_P, ↓reduceIte, Nat.reduceEqDiff, Nat.reduceLeDiff, Nat.reduceAdd, Nat.reduceMul, Nat.reduceSub, reduceCtorEq, l32_0, l32_1, l32_2, l32_3, l32_4, l32_9, l32_11, l32_41, l32_93, l32_125, h9, is, h11, a2])
        · repeat ((first | unfold mf_267 | unfold mf_267_0 | unfold mf_267_7 | unfold mf_267_8 | unfold mf_267_13 | unfold mf_267_16 | unfold mf_267_22 | unfold mf_267_28 | unfold mf_267_34 | unfold mf_267_44 | unfold mf_267_48 | unfold mf_267_51 | unfold mf_267_55); try simp (disch := omega) only [ev_S, ev_P, ↓reduceIte, Nat.reduceEqDiff, Nat.reduceLeDiff, Nat.reduceAdd, Nat.reduceMul, Nat.reduceSub, reduceCtorEq, l32_0, l32_1, l32_2, l32_3, l32_4, l32_9, l32_11, l32_41, l32_93, l32_125, h9, is, h11, a2])
        · repeat ((first | unfold mf_267 | unfold mf_267_0 | unfold mf_267_7 | unfold mf_267_8 | unfold mf_267_13 | unfold mf_267_16 | unfold mf_267_22 | unfold mf_267_28 | unfold mf_267_34 | unfold mf_267_44 | unfold mf_267_48 | unfold mf_267_51 | unfold mf_267_55); try simp (disch := omega) only [ev_S, ev_P, ↓reduceIte, Nat.reduceEqDiff, Nat.reduceLeDiff, Nat.reduceAdd, Nat.reduceMul, Nat.reduceSub, reduceCtorEq, l32_0, l32_1, l32_2, l32_3, l32_4, l32_9, l32_11, l32_41, l32_93, l32_125, h9, is, h11, a2])
  · right
    rw [if_neg e] at is
    have ec : ¬ ck (TL b n)[i] = c := fun q => e ((ck_sg (by omega)).mp q)
    obtain ⟨t', s', a1, a2, a3, a4, a5⟩ := p_wrong (N := N) (X := X) h
    have a1' : cf_202 N X (Int32.ofNat 0) (Int32.ofNat 2) t = some (t', .inr ()) := a1
    refine ⟨t', s', ?_, ?_, a3, a4, a5⟩
    · have kx : ∀ (g : cS → Option Value → kO), ko_call 5 (some (t', .inr ())) g = some (t', .inr ()) := fun _ => rfl
      unfold cf_201 cf_201_0 cf_201_8 cf_201_16 cf_201_17
      simp (disch := omega) only [ev_S, ev_C, ↓reduceIte, Nat.reduceEqDiff, Nat.reduceLeDiff, Nat.reduceAdd, Nat.reduceMul, Nat.reduceSub, reduceCtorEq, l32_0, l32_1, l32_2, l32_3, l32_4, l32_5, l32_6, l32_7, l32_8, l32_9, l32_10, e42, ec, a1', kx]
    · unfold mf_267 mf_267_0 mf_267_8 mf_267_13 mf_267_51 mf_267_55
      simp (disch := omega) only [ev_S, ev_P, ↓reduceIte, Nat.reduceEqDiff, Nat.reduceLeDiff, Nat.reduceAdd, Nat.reduceMul, Nat.reduceSub, reduceCtorEq, l32_0, l32_1, l32_2, l32_3, l32_4, l32_5, l32_6, l32_7, l32_8, l32_9, l32_10, h9, is, a2]
/-- a sign that opens -/
theorem p_opens {c : Nat} (hN : 170000 ≤ N) (h : pR b n i op t s) (hc : c = 40 ∨ c = 91 ∨ c = 123) : (∃ t' s', cf_201 N X (Int32.ofNat c) t = some (t', .inl none) ∧ mf_268 N (Int32.ofNat c) s = some (s', none) ∧ (∃ hi : i < (TL b n).length, (TL b n)[i].1 = c) ∧ op < 10 ∧ pR b n (i + 1) (op + 1) t' s' ∧ gL eP a0 t t' ∧ fPs s s') ∨ (∃ t' s', cf_201 N X (Int32.ofNat c) t = some (t', .inr ()) ∧ mf_268 N (Int32.ofNat c) s = some (s', none) ∧ pF t' s' ∧ gX eP a0 t t' ∧ fPs s s') := by
  obtain ⟨hi, e5, e6, e7, hk, ho, he, hlt, hll⟩ := h.now
  have h9 : s.1 9 = Int32.ofNat 0 := h.2.2.2.2.2.2.2.2.2
  have h2 := h.2.2.1.1
  have h11 := h.2.2.2.2.2.2.2.2.1
  have h10 := h.2.2.2.1
  have h5 := h.2.2.2.2.1
  have e42 : cf_42 N X t = some (t, .inl (some (.int (Int32.ofNat (ck (TL b n)[i]))))) := by
    repeat ((first | unfold cf_42 | unfold cf_42_0); try simp (disch := omega) only [ev_S, ev_C, ↓reduceIte, Nat.reduceEqDiff, Nat.reduceLeDiff, Nat.reduceAdd, Nat.reduceMul, Nat.reduceSub, reduceCtorEq, l32_0, l32_1, l32_2, l32_3, l32_4, l32_5, e5])
  have is := r_isSign (N := N) (c := c) hk (by omega) (by omega)
  have kx : ∀ (t' : cS) (g : cS → Option Value → kO), ko_call 5 (some (t', .inr ())) g = some (t', .inr ()) := fun _ _ => rfl
  by_cases e : (TL b n)[i].1 = c
  · rw [if_pos e] at is
    have ec := (ck_sg (k := (TL b n)[i]) (c := c) (by omega)).mpr e
    rw [ec] at e42
    by_cases co : op < 10
    · left
      obtain ⟨t', s', a1, a2, a3, a4, a5⟩ := p_adv (N := N) (X := X) hN (h.oI (x := op + 1) (by omega)) (fun _ => by show 2 ≤ (TL b n)[i].1; omega)
      refine ⟨t', s', ?_, ?_, ⟨hi, e⟩, co, a3, gL.tr (t1 := jI t 2 2 (Int32.ofNat (op + 1))) gL_oI a4, mfr.tr (s1 := mI s 11 (Int32.ofNat (op + 1))) fPs_oI a5⟩
      · rcases hc with rfl | rfl | rfl
        · repeat ((first | unfold cf_201 | unfold cf_201_0 | unfold cf_201_8 | unfold cf_201_12 | unfold cf_201_16 | unfold cf_201_17 | unfold cf_201_21 | unfold cf_201_27 | unfold cf_201_33 | unfold cf_201_39 | unfold cf_201_49 | unfold cf_201_53 | unfold cf_201_54 | unfold cf_201_58 | unfold cf_201_71 | unfold cf_201_77 | unfold cf_201_83 | unfold cf_201_89 | unfold cf_201_99 | unfold cf_201_106); try simp (disch := omega) only [ev_S, ev_C, ↓reduceIte, Nat.reduceEqDiff, Nat.reduceLeDiff, Nat.reduceAdd, Nat.reduceMul, Nat.reduceSub, reduceCtorEq, l32_0, l32_1, l32_2, l32_3, l32_4, l32_5, l32_10, l32_40, l32_41, l32_91, l32_93, l32_123, l32_125, e42, c_fine, h2, a1])
        · repeat ((first | unfold cf_201 | unfold cf_201_0 | unfold cf_201_8 | unfold cf_201_12 | unfold cf_201_16 | unfold cf_201_17 | unfold cf_201_21 | unfold cf_201_27 | unfold cf_201_33 | unfold cf_201_39 | unfold cf_201_49 | unfold cf_201_53 | unfold cf_201_54 | unfold cf_201_58 | unfold cf_201_71 | unfold cf_201_77 | unfold cf_201_83 | unfold cf_201_89 | unfold cf_201_99 | unfold cf_201_106); try simp (disch := omega) only [ev_S, ev_C, ↓reduceIte, Nat.reduceEqDiff, Nat.reduceLeDiff, Nat.reduceAdd, Nat.reduceMul, Nat.reduceSub, reduceCtorEq, l32_0, l32_1, l32_2, l32_3, l32_4, l32_5, l32_10, l32_40, l32_41, l32_91, l32_93, l32_123, l32_125, e42, c_fine, h2, a1, l32_91])
        · repeat ((first | unfold cf_201 | unfold cf_201_0 | unfold cf_201_8 | unfold cf_201_12 | unfold cf_201_16 | unfold cf_201_17 | unfold cf_201_21 | unfold cf_201_27 | unfold cf_201_33 | unfold cf_201_39 | unfold cf_201_49 | unfold cf_201_53 | unfold cf_201_54 | unfold cf_201_58 | unfold cf_201_71 | unfold cf_201_77 | unfold cf_201_83 | unfold cf_201_89 | unfold cf_201_99 | unfold cf_201_106); try simp (disch := omega) only [ev_S, ev_C, ↓reduceIte, Nat.reduceEqDiff, Nat.reduceLeDiff, Nat.reduceAdd, Nat.reduceMul, Nat.reduceSub, reduceCtorEq, l32_0, l32_1, l32_2, l32_3, l32_4, l32_5, l32_10, l32_40, l32_41, l32_91, l32_93, l32_123, l32_125, e42, c_fine, h2, a1, l32_91, l32_123])
      · repeat ((first | unfold mf_268 | unfold mf_268_0 | unfold mf_268_7 | unfold mf_268_8 | unfold mf_268_13 | unfold mf_268_16 | unfold mf_268_20 | unfold mf_268_21 | unfold mf_268_40 | unfold mf_268_49 | unfold mf_268_52 | unfold mf_268_56); try simp (disch := omega) only [ev_S, ev_P, ↓reduceIte, Nat.reduceEqDiff, Nat.reduceLeDiff, Nat.reduceAdd, Nat.reduceMul, Nat.reduceSub, reduceCtorEq, l32_0, l32_1, l32_2, l32_3, l32_4, l32_6, l32_9, l32_10, l32_11, h9, is, h11, a2])
    · right
      obtain ⟨t', a1, a2, hi', a3, a4⟩ := c_fail (N := N) (X := X) (x := 3) h (by omega)
      rw [if_neg (by omega)] at a3
      have a1' : cf_202 N X (Int32.ofNat 0) (Int32.ofNat 3) t = some (t', .inr ()) := a1
      have e6' := hk.1
      have br := r_breaks (N := N) (s := mI s 11 (Int32.ofNat (op + 1))) (x := Int32.ofNat 3) (y := Int32.ofNat (TL b n)[i].2.2.2.1) h9
      have ha := TL_at hi
      refine ⟨t', flt (mI s 11 (Int32.ofNat (op + 1))) (Int32.ofNat 3) (Int32.ofNat (TL b n)[i].2.2.2.1), ?_, ?_, ⟨3, (TL b n)[i].2.2.2.1, by omega, by omega, by omega, a3, a4, rfl, rfl⟩, a2, ⟨fun q r => ?_, fun _ _ => rfl, fun _ _ => rfl, fun _ _ => rfl⟩⟩
      · rcases hc with rfl | rfl | rfl
        · unfold cf_201 cf_201_0 cf_201_8 cf_201_12 cf_201_17 cf_201_21 cf_201_39 cf_201_53 cf_201_54
          simp (disch := omega) only [ev_S, ev_C, ↓reduceIte, Nat.reduceEqDiff, Nat.reduceLeDiff, Nat.reduceAdd, Nat.reduceMul, Nat.reduceSub, reduceCtorEq, l32_0, l32_1, l32_2, l32_3, l32_4, l32_5, l32_6, l32_7, l32_8, l32_9, l32_10, e42, c_fine, h2, a1', kx, l32_40]
        · unfold cf_201 cf_201_0 cf_201_8 cf_201_12 cf_201_17 cf_201_21 cf_201_27 cf_201_39 cf_201_53 cf_201_54
          simp (disch := omega) only [ev_S, ev_C, ↓reduceIte, Nat.reduceEqDiff, Nat.reduceLeDiff, Nat.reduceAdd, Nat.reduceMul, Nat.reduceSub, reduceCtorEq, l32_0, l32_1, l32_2, l32_3, l32_4, l32_5, l32_6, l32_7, l32_8, l32_9, l32_10, e42, c_fine, h2, a1', kx, l32_40, l32_91]
        · unfold cf_201 cf_201_0 cf_201_8 cf_201_12 cf_201_17 cf_201_21 cf_201_27 cf_201_33 cf_201_39 cf_201_53 cf_201_54
          simp (disch := omega) only [ev_S, ev_C, ↓reduceIte, Nat.reduceEqDiff, Nat.reduceLeDiff, Nat.reduceAdd, Nat.reduceMul, Nat.reduceSub, reduceCtorEq, l32_0, l32_1, l32_2, l32_3, l32_4, l32_5, l32_6, l32_7, l32_8, l32_9, l32_10, e42, c_fine, h2, a1', kx, l32_40, l32_91, l32_123]
      · repeat ((first | unfold mf_268 | unfold mf_268_0 | unfold mf_268_7 | unfold mf_268_8 | unfold mf_268_13 | unfold mf_268_16 | unfold mf_268_20 | unfold mf_268_21 | unfold mf_268_40 | unfold mf_268_49 | unfold mf_268_52 | unfold mf_268_56); try simp (disch := omega) only [ev_S, ev_P, ↓reduceIte, Nat.reduceEqDiff, Nat.reduceLeDiff, Nat.reduceAdd, Nat.reduceMul, Nat.reduceSub, reduceCtorEq, l32_0, l32_1, l32_2, l32_3, l32_4, l32_6, l32_9, l32_10, l32_11, h9, is, h11, e6', br])
      · show (if q = 10 then _ else if q = 9 then _ else if q = 11 then _ else s.1 q) = _
        rw [if_neg (by omega), if_neg (by omega), if_neg (by omega)]
  · right
    rw [if_neg e] at is
    have ec : ¬ ck (TL b n)[i] = c := fun q => e ((ck_sg (by omega)).mp q)
    obtain ⟨t', s', a1, a2, a3, a4, a5⟩ := p_wrong (N := N) (X := X) h
    have a1' : cf_202 N X (Int32.ofNat 0) (Int32.ofNat 2) t = some (t', .inr ()) := a1
    refine ⟨t', s', ?_, ?_, a3, a4, a5⟩
    · unfold cf_201 cf_201_0 cf_201_8 cf_201_16 cf_201_17
      simp (disch := omega) only [ev_S, ev_C, ↓reduceIte, Nat.reduceEqDiff, Nat.reduceLeDiff, Nat.reduceAdd, Nat.reduceMul, Nat.reduceSub, reduceCtorEq, l32_0, l32_1, l32_2, l32_3, l32_4, l32_5, l32_6, l32_7, l32_8, l32_9, l32_10, e42, ec, a1', kx]
    · unfold mf_268 mf_268_0 mf_268_8 mf_268_13 mf_268_16 mf_268_20
      simp (disch := omega) only [ev_S, ev_P, ↓reduceIte, Nat.reduceEqDiff, Nat.reduceLeDiff, Nat.reduceAdd, Nat.reduceMul, Nat.reduceSub, reduceCtorEq, l32_0, l32_1, l32_2, l32_3, l32_4, l32_5, l32_6, l32_7, l32_8, l32_9, l32_10, h9, is, a2]
end PAT
