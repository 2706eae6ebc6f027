/-! ===== PURE: code is emitted ===== -/
/-- the class's code: acts, arguments, places -/
def cCd (t : cS) (p : Nat) (L : List (Int32 × Int32 × Int32)) : Prop := kP t 2 1 = some p ∧ (p = 12 ∨ p = 21) ∧ kI t p 3 = Int32.ofNat L.length ∧ (∀ i (hi : i < L.length), (kA t (p + 1)).2 i = L[i].1 ∧ (kA t (p + 2)).2 i = L[i].2.1 ∧ (kA t (p + 3)).2 i = L[i].2.2) ∧ (kA t (p + 2)).1 = (kA t (p + 1)).1 ∧ (kA t (p + 3)).1 = (kA t (p + 1)).1 ∧ L.length ≤ (kA t (p + 1)).1 ∧ 1 ≤ (kA t (p + 1)).1 ∧ (kA t (p + 1)).1 < 13000
abbrev eC (p : Nat) : Nat → Nat → Prop := fun k f => k = p ∧ f = 3
abbrev aC (p : Nat) : Nat → Prop := fun k => k = p + 1 ∨ k = p + 2 ∨ k = p + 3
section EMI
variable {N : Nat} {X : Nat → Option zz_C} {t : cS} {L : List (Int32 × Int32 × Int32)}
theorem get_app4 {v : Int32 × Int32 × Int32} {g4 g5 g6 : Nat → Int32} (h : ∀ i (hi : i < L.length), g4 i = L[i].1 ∧ g5 i = L[i].2.1 ∧ g6 i = L[i].2.2) (hv : g4 L.length = v.1 ∧ g5 L.length = v.2.1 ∧ g6 L.length = v.2.2) : ∀ i (hi : i < (L ++ [v]).length), g4 i = (L ++ [v])[i].1 ∧ g5 i = (L ++ [v])[i].2.1 ∧ g6 i = (L ++ [v])[i].2.2 := fun i hi => by
  rw [List.length_append] at hi
  have hi : i < L.length + 1 := hi
  by_cases c : i < L.length
  · rw [List.getElem_append_left c]
    exact h i c
  · have e : i = L.length := by omega
    subst e
    rw [List.getElem_append_right (Nat.le_refl _)]
    simp only [Nat.sub_self, List.getElem_cons_zero]
    exact hv
theorem c_emit12 {k a v : Int32} (h : cCd t 12 L) (h8 : rmG t) (hl : L.length < 6500) : ∃ t', cf_209 N X 12 k a v t = some (t', .inl (some (.int (Int32.ofNat L.length)))) ∧ cCd t' 12 (L ++ [(k, a, v)]) ∧ gL (eC 12) (aC 12) t t' ∧ kL t' = kL t := by
  obtain ⟨h0, -, h1, h2, h3, h4, h5, h6, h7⟩ := h
  have h1 : kI t 12 3 = Int32.ofNat L.length := h1
  have h3 : (kA t 14).1 = (kA t 13).1 := h3
  have h4 : (kA t 15).1 = (kA t 13).1 := h4
  have h5 : L.length ≤ (kA t 13).1 := h5
  have h6 : 1 ≤ (kA t 13).1 := h6
  have h7 : (kA t 13).1 < 13000 := h7
  have ll : (L ++ [(k, a, v)]).length = L.length + 1 := List.length_append
  have hk9 := h8.k
  by_cases c : L.length = (kA t 13).1
  · have hl1 := lgc2 (a := (kA t 13).1) (b := 2 * L.length) h6 (by omega) (by omega)
    have hm : Nat.min L.length (2 * L.length) = L.length := Nat.min_eq_left (by omega)
    have c4 : (kA t 13).1 = L.length := c.symm
    have c5 : (kA t 14).1 = L.length := by omega
    have c6 : (kA t 15).1 = L.length := by omega
    obtain ⟨t1, ht1⟩ : ∃ t1, t1 = jMv (jNI (jMv (jNI (jMv (jNI t 1 (2 * L.length) (kcp 0 (kA t 13).2 L.length)) 13) 1 (2 * L.length) (kcp 0 (kA t 14).2 L.length)) 14) 1 (2 * L.length) (kcp 0 (kA t 15).2 L.length)) 15 := ⟨_, rfl⟩
    have st : cf_209 N X 12 k a v t = cf_209_63 N X 12 k a v t1 := by
      rw [ht1]
      unfold cf_209 cf_209_0 cf_209_12 cf_209_29 cf_209_46
      simp (disch := omega) only [ev_S, ev_C, ↓reduceIte, Nat.reduceEqDiff, Nat.reduceLeDiff, Nat.reduceAdd, Nat.reduceMul, Nat.reduceSub, reduceCtorEq, l32_0, l32_1, l32_2, l32_3, l32_4, l32_5, l32_6, l32_7, l32_8, l32_9, l32_10, h1, c4, c5, c6, hm, h0]
    have a4 : kA t1 13 = (2 * L.length, kcp 0 (kA t 13).2 L.length) := by rw [ht1]; rfl
    have a5 : kA t1 14 = (2 * L.length, kcp 0 (kA t 14).2 L.length) := by rw [ht1]; rfl
    have a6 : kA t1 15 = (2 * L.length, kcp 0 (kA t 15).2 L.length) := by rw [ht1]; rfl
    have aI : kI t1 12 3 = Int32.ofNat L.length := by rw [ht1]; exact h1
    have g1 : gL (eC 12) (aC 12) t t1 := by
      have e0 : kN t1 = kN t + 1 + 1 + 1 := by rw [ht1]; rfl
      have e1 : kQ t1 = kQ t + 2 * L.length + 2 * L.length + 2 * L.length := by rw [ht1]; rfl
      have e2 : potL t1 = lgc (kA t 4).1 + lgc (kA t 5).1 + lgc (kB t 6).1 + lgc (kA t 8).1 + lgc (kB t 9).1 + lgc (kA t 10).1 + lgc (kA t 11).1 + lgc (2 * L.length) + lgc (2 * L.length) + lgc (2 * L.length) + lgc (kA t 22).1 + lgc (kA t 23).1 + lgc (kA t 24).1 := by rw [ht1]; rfl
      have e3 : poqL t1 = 2 * (kA t 4).1 + 2 * (kA t 5).1 + 2 * (kB t 6).1 + 2 * (kA t 8).1 + 2 * (kB t 9).1 + 2 * (kA t 10).1 + 2 * (kA t 11).1 + 2 * (2 * L.length) + 2 * (2 * L.length) + 2 * (2 * L.length) + 2 * (kA t 22).1 + 2 * (kA t 23).1 + 2 * (kA t 24).1 := by rw [ht1]; rfl
      refine ⟨fun k f r => by rw [ht1]; rfl, fun k f r => by rw [ht1]; rfl, fun k r1 r2 => ?_, by rw [ht1]; rfl, by rw [ht1]; rfl, by omega, ?_, ?_⟩
      · have q4 : ¬ k = 13 := fun z => r1 (Or.inl z)
        have q5 : ¬ k = 14 := fun z => r1 (Or.inr (Or.inl z))
        have q6 : ¬ k = 15 := fun z => r1 (Or.inr (Or.inr z))
        rw [ht1]
        refine ⟨?_, ?_, ?_⟩
        · simp (disch := omega) only [ev_S, ev_C, ↓reduceIte, Nat.reduceEqDiff, Nat.reduceLeDiff, Nat.reduceAdd, Nat.reduceMul, Nat.reduceSub, reduceCtorEq, l32_0, l32_1, l32_2, l32_3, l32_4, l32_5, l32_6, l32_7, l32_8, l32_9, l32_10, q4, q5, q6, r2]
        · simp (disch := omega) only [ev_S, ev_C, ↓reduceIte, Nat.reduceEqDiff, Nat.reduceLeDiff, Nat.reduceAdd, Nat.reduceMul, Nat.reduceSub, reduceCtorEq, l32_0, l32_1, l32_2, l32_3, l32_4, l32_5, l32_6, l32_7, l32_8, l32_9, l32_10, q4, q5, q6, r2]
        · simp (disch := omega) only [ev_S, ev_C, ↓reduceIte, Nat.reduceEqDiff, Nat.reduceLeDiff, Nat.reduceAdd, Nat.reduceMul, Nat.reduceSub, reduceCtorEq, l32_0, l32_1, l32_2, l32_3, l32_4, l32_5, l32_6, l32_7, l32_8, l32_9, l32_10, q4, q5, q6, r2]
      · rw [e0, e2]
        unfold potL
        rw [c5, c6, c4]
        rw [c4] at hl1
        omega
      · rw [e1, e3]
        unfold poqL
        omega
    refine ⟨jI (jA (jA (jA t1 13 (upd (kcp 0 (kA t 13).2 L.length) L.length k)) 14 (upd (kcp 0 (kA t 14).2 L.length) L.length a)) 15 (upd (kcp 0 (kA t 15).2 L.length) L.length v)) 12 3 (Int32.ofNat (L.length + 1)), ?_, ⟨?_, Or.inl rfl, by rw [ll]; rfl, ?_, ?_, ?_, ?_, ?_, ?_⟩, gL.tr (t1 := t1) g1 ⟨fun k f r => if_neg r, fun _ _ _ => rfl, fun k r1 r2 => ⟨?_, rfl, rfl⟩, rfl, rfl, Nat.le_refl _, Nat.le_refl _, Nat.le_refl _⟩, by rw [ht1]; rfl⟩
    · rw [st]
      unfold cf_209_63
      simp (disch := omega) only [ev_S, ev_C, ↓reduceIte, Nat.reduceEqDiff, Nat.reduceLeDiff, Nat.reduceAdd, Nat.reduceMul, Nat.reduceSub, reduceCtorEq, l32_0, l32_1, l32_2, l32_3, l32_4, l32_5, l32_6, l32_7, l32_8, l32_9, l32_10, aI, a4, a5, a6]
    · rw [ht1]
      exact h0
    · refine get_app4 (fun i hi => ?_) ⟨if_pos rfl, if_pos rfl, if_pos rfl⟩
      obtain ⟨q1, q2, q3⟩ := h2 i hi
      refine ⟨?_, ?_, ?_⟩
      · show upd (kcp 0 (kA t 13).2 L.length) L.length k i = _
        rw [upd_n (by omega), kcp_lt hi]
        exact q1
      · show upd (kcp 0 (kA t 14).2 L.length) L.length a i = _
        rw [upd_n (by omega), kcp_lt hi]
        exact q2
      · show upd (kcp 0 (kA t 15).2 L.length) L.length v i = _
        rw [upd_n (by omega), kcp_lt hi]
        exact q3
    · show (kA t1 14).1 = (kA t1 13).1
      rw [a4, a5]
    · show (kA t1 15).1 = (kA t1 13).1
      rw [a4, a6]
    · show _ ≤ (kA t1 13).1
      rw [a4, ll]
      show L.length + 1 ≤ 2 * L.length
      omega
    · show 1 ≤ (kA t1 13).1
      rw [a4]
      show 1 ≤ 2 * L.length
      omega
    · show (kA t1 13).1 < _
      rw [a4]
      show 2 * L.length < 13000
      omega
    · show (if k = 15 then _ else if k = 14 then _ else if k = 13 then _ else kA t1 k) = _
      rw [if_neg (fun z => r1 (Or.inr (Or.inr z))), if_neg (fun z => r1 (Or.inr (Or.inl z))), if_neg (fun z => r1 (Or.inl z))]
  · have c1 : L.length < (kA t 13).1 := by omega
    refine ⟨jI (jA (jA (jA t 13 (upd (kA t 13).2 L.length k)) 14 (upd (kA t 14).2 L.length a)) 15 (upd (kA t 15).2 L.length v)) 12 3 (Int32.ofNat (L.length + 1)), ?_, ⟨h0, Or.inl rfl, by rw [ll]; rfl, ?_, h3, h4, by rw [ll]; exact c1, h6, h7⟩, ⟨fun k f r => if_neg r, fun _ _ _ => rfl, fun k r1 r2 => ⟨?_, rfl, rfl⟩, rfl, rfl, Nat.le_refl _, Nat.le_refl _, Nat.le_refl _⟩, rfl⟩
    · unfold cf_209 cf_209_0 cf_209_63
      simp (disch := omega) only [ev_S, ev_C, ↓reduceIte, Nat.reduceEqDiff, Nat.reduceLeDiff, Nat.reduceAdd, Nat.reduceMul, Nat.reduceSub, reduceCtorEq, l32_0, l32_1, l32_2, l32_3, l32_4, l32_5, l32_6, l32_7, l32_8, l32_9, l32_10, h1, h3, h4, h0]
    · refine get_app4 (fun i hi => ?_) ⟨if_pos rfl, if_pos rfl, if_pos rfl⟩
      obtain ⟨q1, q2, q3⟩ := h2 i hi
      refine ⟨?_, ?_, ?_⟩
      · show upd (kA t 13).2 L.length k i = _
        rw [upd_n (by omega)]
        exact q1
      · show upd (kA t 14).2 L.length a i = _
        rw [upd_n (by omega)]
        exact q2
      · show upd (kA t 15).2 L.length v i = _
        rw [upd_n (by omega)]
        exact q3
    · show (if k = 15 then _ else if k = 14 then _ else if k = 13 then _ else kA t k) = _
      rw [if_neg (fun z => r1 (Or.inr (Or.inr z))), if_neg (fun z => r1 (Or.inr (Or.inl z))), if_neg (fun z => r1 (Or.inl z))]
theorem c_emit21 {k a v : Int32} (h : cCd t 21 L) (h8 : rmG t) (hl : L.length < 6500) : ∃ t', cf_209 N X 21 k a v t = some (t', .inl (some (.int (Int32.ofNat L.length)))) ∧ cCd t' 21 (L ++ [(k, a, v)]) ∧ gL (eC 21) (aC 21) t t' ∧ kL t' = kL t := by
  obtain ⟨h0, -, h1, h2, h3, h4, h5, h6, h7⟩ := h
  have h1 : kI t 21 3 = Int32.ofNat L.length := h1
  have h3 : (kA t 23).1 = (kA t 22).1 := h3
  have h4 : (kA t 24).1 = (kA t 22).1 := h4
  have h5 : L.length ≤ (kA t 22).1 := h5
  have h6 : 1 ≤ (kA t 22).1 := h6
  have h7 : (kA t 22).1 < 13000 := h7
  have ll : (L ++ [(k, a, v)]).length = L.length + 1 := List.length_append
  have hk9 := h8.k
  by_cases c : L.length = (kA t 22).1
  · have hl1 := lgc2 (a := (kA t 22).1) (b := 2 * L.length) h6 (by omega) (by omega)
    have hm : Nat.min L.length (2 * L.length) = L.length := Nat.min_eq_left (by omega)
    have c4 : (kA t 22).1 = L.length := c.symm
    have c5 : (kA t 23).1 = L.length := by omega
    have c6 : (kA t 24).1 = L.length := by omega
    obtain ⟨t1, ht1⟩ : ∃ t1, t1 = jMv (jNI (jMv (jNI (jMv (jNI t 1 (2 * L.length) (kcp 0 (kA t 22).2 L.length)) 22) 1 (2 * L.length) (kcp 0 (kA t 23).2 L.length)) 23) 1 (2 * L.length) (kcp 0 (kA t 24).2 L.length)) 24 := ⟨_, rfl⟩
    have st : cf_209 N X 21 k a v t = cf_209_63 N X 21 k a v t1 := by
      rw [ht1]
      unfold cf_209 cf_209_0 cf_209_12 cf_209_29 cf_209_46
      simp (disch := omega) only [ev_S, ev_C, ↓reduceIte, Nat.reduceEqDiff, Nat.reduceLeDiff, Nat.reduceAdd, Nat.reduceMul, Nat.reduceSub, reduceCtorEq, l32_0, l32_1, l32_2, l32_3, l32_4, l32_5, l32_6, l32_7, l32_8, l32_9, l32_10, h1, c4, c5, c6, hm, h0]
    have a4 : kA t1 22 = (2 * L.length, kcp 0 (kA t 22).2 L.length) := by rw [ht1]; rfl
    have a5 : kA t1 23 = (2 * L.length, kcp 0 (kA t 23).2 L.length) := by rw [ht1]; rfl
    have a6 : kA t1 24 = (2 * L.length, kcp 0 (kA t 24).2 L.length) := by rw [ht1]; rfl
    have aI : kI t1 21 3 = Int32.ofNat L.length := by rw [ht1]; exact h1
    have g1 : gL (eC 21) (aC 21) t t1 := by
      have e0 : kN t1 = kN t + 1 + 1 + 1 := by rw [ht1]; rfl
      have e1 : kQ t1 = kQ t + 2 * L.length + 2 * L.length + 2 * L.length := by rw [ht1]; rfl
      have e2 : potL t1 = lgc (kA t 4).1 + lgc (kA t 5).1 + lgc (kB t 6).1 + lgc (kA t 8).1 + lgc (kB t 9).1 + lgc (kA t 10).1 + lgc (kA t 11).1 + lgc (kA t 13).1 + lgc (kA t 14).1 + lgc (kA t 15).1 + lgc (2 * L.length) + lgc (2 * L.length) + lgc (2 * L.length) := by rw [ht1]; rfl
      have e3 : poqL t1 = 2 * (kA t 4).1 + 2 * (kA t 5).1 + 2 * (kB t 6).1 + 2 * (kA t 8).1 + 2 * (kB t 9).1 + 2 * (kA t 10).1 + 2 * (kA t 11).1 + 2 * (kA t 13).1 + 2 * (kA t 14).1 + 2 * (kA t 15).1 + 2 * (2 * L.length) + 2 * (2 * L.length) + 2 * (2 * L.length) := by rw [ht1]; rfl
      refine ⟨fun k f r => by rw [ht1]; rfl, fun k f r => by rw [ht1]; rfl, fun k r1 r2 => ?_, by rw [ht1]; rfl, by rw [ht1]; rfl, by omega, ?_, ?_⟩
      · have q4 : ¬ k = 22 := fun z => r1 (Or.inl z)
        have q5 : ¬ k = 23 := fun z => r1 (Or.inr (Or.inl z))
        have q6 : ¬ k = 24 := fun z => r1 (Or.inr (Or.inr z))
        rw [ht1]
        refine ⟨?_, ?_, ?_⟩
        · simp (disch := omega) only [ev_S, ev_C, ↓reduceIte, Nat.reduceEqDiff, Nat.reduceLeDiff, Nat.reduceAdd, Nat.reduceMul, Nat.reduceSub, reduceCtorEq, l32_0, l32_1, l32_2, l32_3, l32_4, l32_5, l32_6, l32_7, l32_8, l32_9, l32_10, q4, q5, q6, r2]
        · simp (disch := omega) only [ev_S, ev_C, ↓reduceIte, Nat.reduceEqDiff, Nat.reduceLeDiff, Nat.reduceAdd, Nat.reduceMul, Nat.reduceSub, reduceCtorEq, l32_0, l32_1, l32_2, l32_3, l32_4, l32_5, l32_6, l32_7, l32_8, l32_9, l32_10, q4, q5, q6, r2]
        · simp (disch := omega) only [ev_S, ev_C, ↓reduceIte, Nat.reduceEqDiff, Nat.reduceLeDiff, Nat.reduceAdd, Nat.reduceMul, Nat.reduceSub, reduceCtorEq, l32_0, l32_1, l32_2, l32_3, l32_4, l32_5, l32_6, l32_7, l32_8, l32_9, l32_10, q4, q5, q6, r2]
      · rw [e0, e2]
        unfold potL
        rw [c5, c6, c4]
        rw [c4] at hl1
        omega
      · rw [e1, e3]
        unfold poqL
        omega
    refine ⟨jI (jA (jA (jA t1 22 (upd (kcp 0 (kA t 22).2 L.length) L.length k)) 23 (upd (kcp 0 (kA t 23).2 L.length) L.length a)) 24 (upd (kcp 0 (kA t 24).2 L.length) L.length v)) 21 3 (Int32.ofNat (L.length + 1)), ?_, ⟨?_, Or.inr rfl, by rw [ll]; rfl, ?_, ?_, ?_, ?_, ?_, ?_⟩, gL.tr (t1 := t1) g1 ⟨fun k f r => if_neg r, fun _ _ _ => rfl, fun k r1 r2 => ⟨?_, rfl, rfl⟩, rfl, rfl, Nat.le_refl _, Nat.le_refl _, Nat.le_refl _⟩, by rw [ht1]; rfl⟩
    · rw [st]
      unfold cf_209_63
      simp (disch := omega) only [ev_S, ev_C, ↓reduceIte, Nat.reduceEqDiff, Nat.reduceLeDiff, Nat.reduceAdd, Nat.reduceMul, Nat.reduceSub, reduceCtorEq, l32_0, l32_1, l32_2, l32_3, l32_4, l32_5, l32_6, l32_7, l32_8, l32_9, l32_10, aI, a4, a5, a6]
    · rw [ht1]
      exact h0
    · refine get_app4 (fun i hi => ?_) ⟨if_pos rfl, if_pos rfl, if_pos rfl⟩
      obtain ⟨q1, q2, q3⟩ := h2 i hi
      refine ⟨?_, ?_, ?_⟩
      · show upd (kcp 0 (kA t 22).2 L.length) L.length k i = _
        rw [upd_n (by omega), kcp_lt hi]
        exact q1
      · show upd (kcp 0 (kA t 23).2 L.length) L.length a i = _
        rw [upd_n (by omega), kcp_lt hi]
        exact q2
      · show upd (kcp 0 (kA t 24).2 L.length) L.length v i = _
        rw [upd_n (by omega), kcp_lt hi]
        exact q3
    · show (kA t1 23).1 = (kA t1 22).1
      rw [a4, a5]
    · show (kA t1 24).1 = (kA t1 22).1
      rw [a4, a6]
    · show _ ≤ (kA t1 22).1
      rw [a4, ll]
      show L.length + 1 ≤ 2 * L.length
      omega
    · show 1 ≤ (kA t1 22).1
      rw [a4]
      show 1 ≤ 2 * L.length
      omega
    · show (kA t1 22).1 < _
      rw [a4]
      show 2 * L.length < 13000
      omega
    · show (if k = 24 then _ else if k = 23 then _ else if k = 22 then _ else kA t1 k) = _
      rw [if_neg (fun z => r1 (Or.inr (Or.inr z))), if_neg (fun z => r1 (Or.inr (Or.inl z))), if_neg (fun z => r1 (Or.inl z))]
  · have c1 : L.length < (kA t 22).1 := by omega
    refine ⟨jI (jA (jA (jA t 22 (upd (kA t 22).2 L.length k)) 23 (upd (kA t 23).2 L.length a)) 24 (upd (kA t 24).2 L.length v)) 21 3 (Int32.ofNat (L.length + 1)), ?_, ⟨h0, Or.inr rfl, by rw [ll]; rfl, ?_, h3, h4, by rw [ll]; exact c1, h6, h7⟩, ⟨fun k f r => if_neg r, fun _ _ _ => rfl, fun k r1 r2 => ⟨?_, rfl, rfl⟩, rfl, rfl, Nat.le_refl _, Nat.le_refl _, Nat.le_refl _⟩, rfl⟩
    · unfold cf_209 cf_209_0 cf_209_63
      simp (disch := omega) only [ev_S, ev_C, ↓reduceIte, Nat.reduceEqDiff, Nat.reduceLeDiff, Nat.reduceAdd, Nat.reduceMul, Nat.reduceSub, reduceCtorEq, l32_0, l32_1, l32_2, l32_3, l32_4, l32_5, l32_6, l32_7, l32_8, l32_9, l32_10, h1, h3, h4, h0]
    · refine get_app4 (fun i hi => ?_) ⟨if_pos rfl, if_pos rfl, if_pos rfl⟩
      obtain ⟨q1, q2, q3⟩ := h2 i hi
      refine ⟨?_, ?_, ?_⟩
      · show upd (kA t 22).2 L.length k i = _
        rw [upd_n (by omega)]
        exact q1
      · show upd (kA t 23).2 L.length a i = _
        rw [upd_n (by omega)]
        exact q2
      · show upd (kA t 24).2 L.length v i = _
        rw [upd_n (by omega)]
        exact q3
    · show (if k = 24 then _ else if k = 23 then _ else if k = 22 then _ else kA t k) = _
      rw [if_neg (fun z => r1 (Or.inr (Or.inr z))), if_neg (fun z => r1 (Or.inr (Or.inl z))), if_neg (fun z => r1 (Or.inl z))]
theorem c_emit {p : Nat} {k a v : Int32} (h : cCd t p L) (h8 : rmG t) (hl : L.length < 6500) : ∃ t', cf_209 N X p k a v t = some (t', .inl (some (.int (Int32.ofNat L.length)))) ∧ cCd t' p (L ++ [(k, a, v)]) ∧ gL (eC p) (aC p) t t' ∧ kL t' = kL t := by
  have hp := h.2.1
  rcases hp with rfl | rfl
  · exact c_emit12 h h8 hl
  · exact c_emit21 h h8 hl
theorem c_len {p : Nat} (h : cCd t p L) : cf_203 N X p t = some (t, .inl (some (.int (Int32.ofNat L.length)))) := by
  have h1 := h.2.2.1
  have hp := h.2.1
  repeat ((first | unfold cf_203 | unfold cf_203_0); try simp (disch := omega) only [ev_S, ev_C, ↓reduceIte, Nat.reduceEqDiff, Nat.reduceLeDiff, Nat.reduceAdd, Nat.reduceMul, Nat.reduceSub, reduceCtorEq, l32_0, l32_1, l32_2, l32_3, l32_4, l32_12, l32_21, hp, h1])
theorem c_amend {p m : Nat} {v : Int32} (h : cCd t p L) (hm : m < L.length) (hl : L.length < 6500) : ∃ t', cf_210 N X p (Int32.ofNat m) v t = some (t', .inl none) ∧ cCd t' p (L.set m (L[m].1, v, L[m].2.2)) ∧ gL (fun _ _ => False) (aC p) t t' ∧ kL t' = kL t := by
  obtain ⟨h0, hp, h1, h2, h3, h4, h5, h6, h7⟩ := h
  have ls : (L.set m (L[m].1, v, L[m].2.2)).length = L.length := List.length_set
  have hg : ∀ (g4 g5 g6 : Nat → Int32), (∀ i (hi : i < L.length), g4 i = L[i].1 ∧ g5 i = L[i].2.1 ∧ g6 i = L[i].2.2) → ∀ i (hi : i < (L.set m (L[m].1, v, L[m].2.2)).length), g4 i = (L.set m (L[m].1, v, L[m].2.2))[i].1 ∧ upd g5 m v i = (L.set m (L[m].1, v, L[m].2.2))[i].2.1 ∧ g6 i = (L.set m (L[m].1, v, L[m].2.2))[i].2.2 := fun g4 g5 g6 hh i hi => by
    have hi' : i < L.length := by rw [ls] at hi; exact hi
    by_cases c : i = m
    · subst c
      rw [List.getElem_set_self, upd_s]
      exact ⟨(hh i hi').1, rfl, (hh i hi').2.2⟩
    · rw [List.getElem_set_ne (by omega), upd_n c]
      exact hh i hi'
  have hlt : m < (kA t (p + 2)).1 := by omega
  rcases hp with rfl | rfl
  · refine ⟨jA t 14 (upd (kA t 14).2 m v), ?_, ⟨h0, Or.inl rfl, by rw [ls]; exact h1, hg _ _ _ h2, h3, h4, by rw [ls]; exact h5, h6, h7⟩, ⟨fun _ _ _ => rfl, fun _ _ _ => rfl, fun k r1 r2 => ⟨if_neg (fun z => r1 (Or.inr (Or.inl z))), rfl, rfl⟩, rfl, rfl, Nat.le_refl _, Nat.le_refl _, Nat.le_refl _⟩, rfl⟩
    repeat ((first | unfold cf_210 | unfold cf_210_0 | unfold cf_210_4 | unfold cf_210_12 | unfold cf_210_19); try simp (disch := omega) only [ev_S, ev_C, ↓reduceIte, Nat.reduceEqDiff, Nat.reduceLeDiff, Nat.reduceAdd, Nat.reduceMul, Nat.reduceSub, reduceCtorEq, l32_0, l32_1, l32_2, l32_3, l32_4, l32_12, l32_21, h1])
  · refine ⟨jA t 23 (upd (kA t 23).2 m v), ?_, ⟨h0, Or.inr rfl, by rw [ls]; exact h1, hg _ _ _ h2, h3, h4, by rw [ls]; exact h5, h6, h7⟩, ⟨fun _ _ _ => rfl, fun _ _ _ => rfl, fun k r1 r2 => ⟨if_neg (fun z => r1 (Or.inr (Or.inl z))), rfl, rfl⟩, rfl, rfl, Nat.le_refl _, Nat.le_refl _, Nat.le_refl _⟩, rfl⟩
    repeat ((first | unfold cf_210 | unfold cf_210_0 | unfold cf_210_4 | unfold cf_210_12 | unfold cf_210_19); try simp (disch := omega) only [ev_S, ev_C, ↓reduceIte, Nat.reduceEqDiff, Nat.reduceLeDiff, Nat.reduceAdd, Nat.reduceMul, Nat.reduceSub, reduceCtorEq, l32_0, l32_1, l32_2, l32_3, l32_4, l32_12, l32_21, h1])
end EMI
