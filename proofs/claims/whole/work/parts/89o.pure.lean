/-! ===== PURE: calls are noted ===== -/
abbrev K4 : Type := Int32 × Int64 × Int32 × Int32
/-- the class's calls: act, name, place, how many -/
def cCl (t : cS) (L : List K4) : Prop := kI t 2 9 = Int32.ofNat L.length ∧ (∀ i (hi : i < L.length), (kA t 8).2 i = L[i].1 ∧ (kB t 9).2 i = L[i].2.1 ∧ (kA t 10).2 i = L[i].2.2.1 ∧ (kA t 11).2 i = L[i].2.2.2) ∧ (kB t 9).1 = (kA t 8).1 ∧ (kA t 10).1 = (kA t 8).1 ∧ (kA t 11).1 = (kA t 8).1 ∧ L.length ≤ (kA t 8).1 ∧ 1 ≤ (kA t 8).1 ∧ (kA t 8).1 < 13000
/-- the reference's: order, name, how many, place -/
def rCl (s : mS) (L : List K4) : Prop := s.1 29 = Int32.ofNat L.length ∧ L.length ≤ 800 ∧ ∀ i (hi : i < L.length), s.2.2.1 30 i = L[i].1 ∧ s.2.2.2 33 i = L[i].2.1 ∧ s.2.2.1 32 i = L[i].2.2.1 ∧ s.2.2.1 31 i = L[i].2.2.2
abbrev eN : Nat → Nat → Prop := fun k f => k = 2 ∧ f = 9
abbrev aN : Nat → Prop := fun k => k = 8 ∨ k = 9 ∨ k = 10 ∨ k = 11
abbrev fN (s s' : mS) : Prop := mfr (fun q => q = 29) (fun _ => False) (fun q => q = 30 ∨ q = 31 ∨ q = 32) (fun q => q = 33) s s'
section NOT
variable {N : Nat} {X : Nat → Option zz_C} {t : cS} {s : mS} {L : List K4}
theorem get_app6 {v : K4} {g4 g6 g7 : Nat → Int32} {g5 : Nat → Int64} (h : ∀ i (hi : i < L.length), g4 i = L[i].1 ∧ g5 i = L[i].2.1 ∧ g6 i = L[i].2.2.1 ∧ g7 i = L[i].2.2.2) (hv : g4 L.length = v.1 ∧ g5 L.length = v.2.1 ∧ g6 L.length = v.2.2.1 ∧ g7 L.length = v.2.2.2) : ∀ i (hi : i < (L ++ [v]).length), g4 i = (L ++ [v])[i].1 ∧ g5 i = (L ++ [v])[i].2.1 ∧ g6 i = (L ++ [v])[i].2.2.1 ∧ g7 i = (L ++ [v])[i].2.2.2 := fun i hi => by
  rw [List.length_append] at hi
  have hi : i < L.length + 1 := hi
  by_cases c : i < L.length
  · rw [List.getElem_append_left c]
    exact h i c
  · have e : i = L.length := by omega
    subst e
    rw [List.getElem_append_right (Nat.le_refl _)]
    simp only [Nat.sub_self, List.getElem_cons_zero]
    exact hv
theorem r_called {a c d : Int32} {v : Int64} (h : rCl s L) (hl : L.length < 800) : ∃ s', mf_273 N a v c d s = some (s', none) ∧ rCl s' (L ++ [(a, v, c, d)]) ∧ fN s s' := by
  obtain ⟨h1, h2, h3⟩ := h
  have ll : (L ++ [(a, v, c, d)]).length = L.length + 1 := List.length_append
  refine ⟨mI (mA (mA (mB (mA s 30 (upd (s.2.2.1 30) L.length a)) 33 (vp_updL (s.2.2.2 33) L.length v)) 32 (upd (s.2.2.1 32) L.length c)) 31 (upd (s.2.2.1 31) L.length d)) 29 (Int32.ofNat (L.length + 1)), ?_, ⟨by rw [ll]; rfl, by rw [ll]; omega, get_app6 (fun i hi => ?_) ⟨if_pos rfl, if_pos rfl, if_pos rfl, if_pos rfl⟩⟩, ⟨fun q r => if_neg r, fun _ _ => rfl, fun q r => ?_, fun q r => if_neg r⟩⟩
  · repeat ((first | unfold mf_273 | unfold mf_273_0); try simp (disch := omega) only [ev_S, ev_P, ↓reduceIte, Nat.reduceEqDiff, Nat.reduceLeDiff, Nat.reduceAdd, Nat.reduceMul, Nat.reduceSub, reduceCtorEq, l32_0, l32_1, l32_2, l32_3, l32_4, l32_29, l32_30, l32_31, l32_32, l32_33, l32_800, h1, l32_800])
  · obtain ⟨q1, q2, q3, q4⟩ := h3 i hi
    exact ⟨(upd_n (by omega)).trans q1, (updL_n (by omega)).trans q2, (upd_n (by omega)).trans q3, (upd_n (by omega)).trans q4⟩
  · show (if q = 31 then _ else if q = 32 then _ else if q = 30 then _ else s.2.2.1 q) = _
    rw [if_neg (by omega), if_neg (by omega), if_neg (by omega)]
theorem c_note {a c d : Int32} {v : Int64} (h : cCl t L) (h8 : rmG t) (hl : L.length < 6500) : ∃ t', cf_198 N X a v c d t = some (t', .inl none) ∧ cCl t' (L ++ [(a, v, c, d)]) ∧ gL eN aN t t' ∧ kL t' = kL t := by
  obtain ⟨h1, h2, h3, h4, h4b, h5, h6, h7⟩ := h
  have ll : (L ++ [(a, v, c, d)]).length = L.length + 1 := List.length_append
  have hk9 := h8.k
  by_cases cc : L.length = (kA t 8).1
  · have hl1 := lgc2 (a := (kA t 8).1) (b := 2 * L.length) h6 (by omega) (by omega)
    have hm : Nat.min L.length (2 * L.length) = L.length := Nat.min_eq_left (by omega)
    have c4 : (kA t 8).1 = L.length := cc.symm
    have c5 : (kB t 9).1 = L.length := by omega
    have c6 : (kA t 10).1 = L.length := by omega
    have c7 : (kA t 11).1 = L.length := by omega
    obtain ⟨t1, ht1⟩ : ∃ t1, t1 = jMv (jNI (jMv (jNI (jMv (jNL (jMv (jNI t 1 (2 * L.length) (kcp 0 (kA t 8).2 L.length)) 8) (2 * L.length) (kcp 0 (kB t 9).2 L.length)) 9) 1 (2 * L.length) (kcp 0 (kA t 10).2 L.length)) 10) 1 (2 * L.length) (kcp 0 (kA t 11).2 L.length)) 11 := ⟨_, rfl⟩
    have st : cf_198 N X a v c d t = cf_198_80 N X a v c d t1 := by
      rw [ht1]
      unfold cf_198 cf_198_0 cf_198_12 cf_198_29 cf_198_46 cf_198_63
      simp (disch := omega) only [ev_S, ev_C, ↓reduceIte, Nat.reduceEqDiff, Nat.reduceLeDiff, Nat.reduceAdd, Nat.reduceMul, Nat.reduceSub, reduceCtorEq, l32_0, l32_1, l32_2, l32_3, l32_4, l32_5, l32_6, l32_7, l32_8, l32_9, l32_10, h1, c4, c5, c6, c7, hm]
    have a4 : kA t1 8 = (2 * L.length, kcp 0 (kA t 8).2 L.length) := by rw [ht1]; rfl
    have a5 : kB t1 9 = (2 * L.length, kcp 0 (kB t 9).2 L.length) := by rw [ht1]; rfl
    have a6 : kA t1 10 = (2 * L.length, kcp 0 (kA t 10).2 L.length) := by rw [ht1]; rfl
    have a7 : kA t1 11 = (2 * L.length, kcp 0 (kA t 11).2 L.length) := by rw [ht1]; rfl
    have aI : kI t1 2 9 = Int32.ofNat L.length := by rw [ht1]; exact h1
    have g1 : gL eN aN t t1 := by
      have e0 : kN t1 = kN t + 1 + 1 + 1 + 1 := by rw [ht1]; rfl
      have e1 : kQ t1 = kQ t + 2 * L.length + 2 * L.length + 2 * L.length + 2 * L.length := by rw [ht1]; rfl
      have e2 : potL t1 = lgc (kA t 4).1 + lgc (kA t 5).1 + lgc (kB t 6).1 + lgc (2 * L.length) + lgc (2 * L.length) + lgc (2 * L.length) + lgc (2 * L.length) + lgc (kA t 13).1 + lgc (kA t 14).1 + lgc (kA t 15).1 + lgc (kA t 22).1 + lgc (kA t 23).1 + lgc (kA t 24).1 := by rw [ht1]; rfl
      have e3 : poqL t1 = 2 * (kA t 4).1 + 2 * (kA t 5).1 + 2 * (kB t 6).1 + 2 * (2 * L.length) + 2 * (2 * L.length) + 2 * (2 * L.length) + 2 * (2 * L.length) + 2 * (kA t 13).1 + 2 * (kA t 14).1 + 2 * (kA t 15).1 + 2 * (kA t 22).1 + 2 * (kA t 23).1 + 2 * (kA t 24).1 := by rw [ht1]; rfl
      refine ⟨fun k f r => by rw [ht1]; rfl, fun k f r => by rw [ht1]; rfl, fun k r1 r2 => ?_, by rw [ht1]; rfl, by rw [ht1]; rfl, by omega, ?_, ?_⟩
      · have q4 : ¬ k = 8 := fun z => r1 (Or.inl z)
        have q5 : ¬ k = 9 := fun z => r1 (Or.inr (Or.inl z))
        have q6 : ¬ k = 10 := fun z => r1 (Or.inr (Or.inr (Or.inl z)))
        have q7 : ¬ k = 11 := fun z => r1 (Or.inr (Or.inr (Or.inr z)))
        rw [ht1]
        refine ⟨?_, ?_, ?_⟩
        · simp (disch := omega) only [ev_S, ev_C, ↓reduceIte, Nat.reduceEqDiff, Nat.reduceLeDiff, Nat.reduceAdd, Nat.reduceMul, Nat.reduceSub, reduceCtorEq, l32_0, l32_1, l32_2, l32_3, l32_4, l32_5, l32_6, l32_7, l32_8, l32_9, l32_10, q4, q5, q6, q7, r2]
        · simp (disch := omega) only [ev_S, ev_C, ↓reduceIte, Nat.reduceEqDiff, Nat.reduceLeDiff, Nat.reduceAdd, Nat.reduceMul, Nat.reduceSub, reduceCtorEq, l32_0, l32_1, l32_2, l32_3, l32_4, l32_5, l32_6, l32_7, l32_8, l32_9, l32_10, q4, q5, q6, q7, r2]
        · simp (disch := omega) only [ev_S, ev_C, ↓reduceIte, Nat.reduceEqDiff, Nat.reduceLeDiff, Nat.reduceAdd, Nat.reduceMul, Nat.reduceSub, reduceCtorEq, l32_0, l32_1, l32_2, l32_3, l32_4, l32_5, l32_6, l32_7, l32_8, l32_9, l32_10, q4, q5, q6, q7, r2]
      · rw [e0, e2]
        unfold potL
        rw [c5, c6, c7, c4]
        rw [c4] at hl1
        omega
      · rw [e1, e3]
        unfold poqL
        omega
    refine ⟨jI (jA (jA (jB (jA t1 8 (upd (kcp 0 (kA t 8).2 L.length) L.length a)) 9 (vp_updL (kcp 0 (kB t 9).2 L.length) L.length v)) 10 (upd (kcp 0 (kA t 10).2 L.length) L.length c)) 11 (upd (kcp 0 (kA t 11).2 L.length) L.length d)) 2 9 (Int32.ofNat (L.length + 1)), ?_, ⟨by rw [ll]; rfl, ?_, ?_, ?_, ?_, ?_, ?_, ?_⟩, gL.tr (t1 := t1) g1 ⟨fun k f r => if_neg r, fun _ _ _ => rfl, fun k r1 r2 => ⟨?_, ?_, rfl⟩, rfl, rfl, Nat.le_refl _, Nat.le_refl _, Nat.le_refl _⟩, by rw [ht1]; rfl⟩
    · rw [st]
      unfold cf_198_80
      simp (disch := omega) only [ev_S, ev_C, ↓reduceIte, Nat.reduceEqDiff, Nat.reduceLeDiff, Nat.reduceAdd, Nat.reduceMul, Nat.reduceSub, reduceCtorEq, l32_0, l32_1, l32_2, l32_3, l32_4, l32_5, l32_6, l32_7, l32_8, l32_9, l32_10, aI, a4, a5, a6, a7]
    · refine get_app6 (fun i hi => ?_) ⟨if_pos rfl, if_pos rfl, if_pos rfl, if_pos rfl⟩
      obtain ⟨q1, q2, q3, q4⟩ := h2 i hi
      refine ⟨?_, ?_, ?_, ?_⟩
      · show upd (kcp 0 (kA t 8).2 L.length) L.length a i = _
        rw [upd_n (by omega), kcp_lt hi]
        exact q1
      · show vp_updL (kcp 0 (kB t 9).2 L.length) L.length v i = _
        rw [updL_n (by omega), kcp_lt hi]
        exact q2
      · show upd (kcp 0 (kA t 10).2 L.length) L.length c i = _
        rw [upd_n (by omega), kcp_lt hi]
        exact q3
      · show upd (kcp 0 (kA t 11).2 L.length) L.length d i = _
        rw [upd_n (by omega), kcp_lt hi]
        exact q4
    · show (kB t1 9).1 = (kA t1 8).1
      rw [a4, a5]
    · show (kA t1 10).1 = (kA t1 8).1
      rw [a4, a6]
    · show (kA t1 11).1 = (kA t1 8).1
      rw [a4, a7]
    · show _ ≤ (kA t1 8).1
      rw [a4, ll]
      show L.length + 1 ≤ 2 * L.length
      omega
    · show 1 ≤ (kA t1 8).1
      rw [a4]
      show 1 ≤ 2 * L.length
      omega
    · show (kA t1 8).1 < _
      rw [a4]
      show 2 * L.length < 13000
      omega
    · show (if k = 11 then _ else if k = 10 then _ else if k = 8 then _ else kA t1 k) = _
      rw [if_neg (by omega), if_neg (by omega), if_neg (by omega)]
    · show (if k = 9 then _ else kB t1 k) = _
      rw [if_neg (by omega)]
  · have c1 : L.length < (kA t 8).1 := by omega
    refine ⟨jI (jA (jA (jB (jA t 8 (upd (kA t 8).2 L.length a)) 9 (vp_updL (kB t 9).2 L.length v)) 10 (upd (kA t 10).2 L.length c)) 11 (upd (kA t 11).2 L.length d)) 2 9 (Int32.ofNat (L.length + 1)), ?_, ⟨by rw [ll]; rfl, ?_, h3, h4, h4b, by rw [ll]; exact c1, h6, h7⟩, ⟨fun k f r => if_neg r, fun _ _ _ => rfl, fun k r1 r2 => ⟨?_, ?_, rfl⟩, rfl, rfl, Nat.le_refl _, Nat.le_refl _, Nat.le_refl _⟩, rfl⟩
    · unfold cf_198 cf_198_0 cf_198_80
      simp (disch := omega) only [ev_S, ev_C, ↓reduceIte, Nat.reduceEqDiff, Nat.reduceLeDiff, Nat.reduceAdd, Nat.reduceMul, Nat.reduceSub, reduceCtorEq, l32_0, l32_1, l32_2, l32_3, l32_4, l32_5, l32_6, l32_7, l32_8, l32_9, l32_10, h1, h3, h4, h4b]
    · refine get_app6 (fun i hi => ?_) ⟨if_pos rfl, if_pos rfl, if_pos rfl, if_pos rfl⟩
      obtain ⟨q1, q2, q3, q4⟩ := h2 i hi
      refine ⟨?_, ?_, ?_, ?_⟩
      · show upd (kA t 8).2 L.length a i = _
        rw [upd_n (by omega)]
        exact q1
      · show vp_updL (kB t 9).2 L.length v i = _
        rw [updL_n (by omega)]
        exact q2
      · show upd (kA t 10).2 L.length c i = _
        rw [upd_n (by omega)]
        exact q3
      · show upd (kA t 11).2 L.length d i = _
        rw [upd_n (by omega)]
        exact q4
    · show (if k = 11 then _ else if k = 10 then _ else if k = 8 then _ else kA t k) = _
      rw [if_neg (by omega), if_neg (by omega), if_neg (by omega)]
    · show (if k = 9 then _ else kB t k) = _
      rw [if_neg (by omega)]
end NOT
