/-! ===== PURE: the reference's token ===== -/
section TOL
variable {N : Nat} {s : mS} {b : Nat → Nat} {n : Nat}
theorem sk_le {p : Nat} (h : p ≤ n) : p ≤ sk b n p ∧ sk b n p ≤ n := skF_le _ _ _ h
theorem r_token {p : Nat} (hN : 170000 ≤ N) (h : rTx s b n) (hp : p ≤ n) : ∃ s', mf_60 N (Int32.ofNat p) s = some (s', none) ∧ rTk s' (lex b n p) ∧ fTk s s' := by
  have hb := r_begin (N := N) hN h hp
  obtain ⟨k1, k2⟩ := sk_le (b := b) hp
  have h4 := h.2.1
  have h5 := h.2.2.1
  unfold lex
  generalize sk b n p = a at hb k1 k2
  obtain ⟨s1, hs1⟩ : ∃ s1, s1 = mL (mI s 6 (Int32.ofNat a)) 7 (Int64.ofNat 0) := ⟨_, rfl⟩
  have x1 : rTx s1 b n := by rw [hs1]; exact h
  have e6 : s1.1 6 = Int32.ofNat a := by rw [hs1]; rfl
  have e4 : s1.1 4 = Int32.ofNat n := x1.1
  have f1 : fTk s s1 := by
    rw [hs1]
    exact ⟨fun q r => if_neg (fun z => r (Or.inr (Or.inl z))), fun q r => if_neg r, fun _ _ => rfl, fun _ _ => rfl⟩
  have hy := r_byte (N := N) x1 (a := a) (by omega)
  have e22 : mf_60 N (Int32.ofNat p) s = mf_60_22 N (Int32.ofNat (if a < n then b a else 0)) s1 := by
    rw [hs1] at hy ⊢
    unfold mf_60 mf_60_0
    rw [hb, ev_bi]
    unfold mf_60_6
    rw [l64_0, hy, ev_bi]
  rw [e22]
  have fin : ∀ (s2 : mS) (e : Nat), fTk s s2 → fTk s (mI s2 8 (Int32.ofNat e)) := fun s2 e f => mfr.tr (s1 := s2) f ⟨fun q r => if_neg (fun z => r (Or.inr (Or.inr z))), fun _ _ => rfl, fun _ _ => rfl, fun _ _ => rfl⟩
  have fI : ∀ (s2 : mS) (x : Int32), fTk s s2 → fTk s (mI s2 5 x) := fun s2 x f => mfr.tr (s1 := s2) f ⟨fun q r => if_neg (fun z => r (Or.inl z)), fun _ _ => rfl, fun _ _ => rfl, fun _ _ => rfl⟩
  have fL : ∀ (s2 : mS) (V : Int64), fTk s s2 → fTk s (mL s2 7 V) := fun s2 x f => mfr.tr (s1 := s2) f ⟨fun _ _ => rfl, fun q r => if_neg r, fun _ _ => rfl, fun _ _ => rfl⟩
  unfold tkA
  by_cases c : a < n
  · rw [if_pos c, if_pos c]
    have hba := h5 a
    have e47 : mf_60_22 N (Int32.ofNat (b a)) s1 = mf_60_47 N (Int32.ofNat (b a)) (Int32.ofNat a) s1 := by
      unfold mf_60_22
      simp (disch := omega) only [ev_S, ev_P, ↓reduceIte, Nat.reduceEqDiff, Nat.reduceLeDiff, Nat.reduceAdd, Nat.reduceMul, Nat.reduceSub, reduceCtorEq, l32_0, l32_1, l32_2, l32_3, l32_4, l32_5, l32_6, l32_7, l32_8, l32_9, l32_10, e6, e4]
    rw [e47]
    have hl := r_isL (N := N) (s := s1) (c := b a) hba
    have hd := r_isD (N := N) (s := s1) (c := b a) hba
    by_cases cl : 97 ≤ b a ∧ b a ≤ 122
    · rw [if_pos cl] at hl ⊢
      obtain ⟨V', w1, w2⟩ := r_wrd (N := N) x1 e6 (n - a) a (N - (n - a + 1)) [] (Int64.ofNat 0) (by omega) rfl (fun _ => rfl)
      rw [show N - (n - a + 1) + (n - a + 1) = N by omega, show mL s1 7 (Int64.ofNat 0) = s1 by rw [hs1, mL_mL]] at w1
      obtain ⟨o1, o2, o3, o4⟩ := wrd_ok (b := b) (n := n) (n - a) a [] (fun d hd => (List.not_mem_nil hd).elim)
      have o4 : (wrd b n (n - a) a []).2.length + a = (wrd b n (n - a) a []).1 := o4
      generalize wrd b n (n - a) a [] = P at *
      have eL : mf_60_47 N (Int32.ofNat (b a)) (Int32.ofNat a) s1 = mf_60_105 N (Int32.ofNat P.1) (mL s1 7 V') := by
        rw [← w1]
        unfold mf_60_47 mf_60_51
        simp (disch := omega) only [ev_S, ev_P, ↓reduceIte, Nat.reduceEqDiff, Nat.reduceLeDiff, Nat.reduceAdd, Nat.reduceMul, Nat.reduceSub, reduceCtorEq, l32_0, l32_1, l32_2, l32_3, l32_4, l32_5, l32_6, l32_7, l32_8, l32_9, l32_10, hl]
      rw [eL]
      unfold tkW
      by_cases c8 : P.2.length ≤ 8
      · rw [if_pos c8]
        have hV := w2 c8
        refine ⟨mI (mI (mL s1 7 V') 5 (Int32.ofNat 1)) 8 (Int32.ofNat P.1), ?_, ⟨e6, rfl, Or.inr (Or.inr (Or.inr (Or.inl ⟨rfl, rfl, hV, c8, o1⟩)))⟩, fin _ _ (fI _ _ (fL _ _ f1))⟩
        unfold mf_60_105 mf_60_121 mf_60_122 mf_60_226
        simp (disch := omega) only [ev_S, ev_P, ↓reduceIte, Nat.reduceEqDiff, Nat.reduceLeDiff, Nat.reduceAdd, Nat.reduceMul, Nat.reduceSub, reduceCtorEq, l32_0, l32_1, l32_2, l32_3, l32_4, l32_5, l32_6, l32_7, l32_8, l32_9, l32_10, e6]
      · rw [if_neg c8]
        refine ⟨mI (mI (mL s1 7 V') 5 (Int32.ofNat 4)) 8 (Int32.ofNat P.1), ?_, ⟨e6, rfl, Or.inr (Or.inl ⟨rfl, rfl⟩)⟩, fin _ _ (fI _ _ (fL _ _ f1))⟩
        unfold mf_60_105 mf_60_117 mf_60_122 mf_60_226
        simp (disch := omega) only [ev_S, ev_P, ↓reduceIte, Nat.reduceEqDiff, Nat.reduceLeDiff, Nat.reduceAdd, Nat.reduceMul, Nat.reduceSub, reduceCtorEq, l32_0, l32_1, l32_2, l32_3, l32_4, l32_5, l32_6, l32_7, l32_8, l32_9, l32_10, e6]
    · rw [if_neg cl] at hl ⊢
      by_cases cd : 48 ≤ b a ∧ b a ≤ 57
      · rw [if_pos cd] at hd ⊢
        obtain ⟨V', w1, w2⟩ := r_nmb (N := N) x1 e6 (n - a) a (N - (n - a + 1)) 0 (Int64.ofNat 0) (by omega) (Nat.le_refl _) (fun _ => rfl)
        rw [show N - (n - a + 1) + (n - a + 1) = N by omega, show mL s1 7 (Int64.ofNat 0) = s1 by rw [hs1, mL_mL]] at w1
        obtain ⟨d, o1, o2, o3⟩ := nmb_ok (b := b) (n := n) (n - a) a 0 0 (by decide)
        generalize nmb b n (n - a) a 0 = P at *
        have eL : mf_60_47 N (Int32.ofNat (b a)) (Int32.ofNat a) s1 = mf_60_186 N (Int32.ofNat P.1) (mL s1 7 V') := by
          rw [← w1]
          unfold mf_60_47 mf_60_51 mf_60_128 mf_60_132
          simp (disch := omega) only [ev_S, ev_P, ↓reduceIte, Nat.reduceEqDiff, Nat.reduceLeDiff, Nat.reduceAdd, Nat.reduceMul, Nat.reduceSub, reduceCtorEq, l32_0, l32_1, l32_2, l32_3, l32_4, l32_5, l32_6, l32_7, l32_8, l32_9, l32_10, hl, hd]
        rw [eL]
        unfold tkN
        have oe : P.1 - a = d := by omega
        by_cases c10 : d ≤ 10
        · have hV := w2 (by omega)
          have p10 : (10 : Nat) ^ (0 + d) ≤ 10 ^ 10 := Nat.pow_le_pow_right (by decide) (by omega)
          have e10 : (10 : Nat) ^ 10 = 10000000000 := by decide
          have hv10 : P.2 < 10000000000 := by omega
          by_cases cm : P.2 ≤ 2147483647
          · rw [if_pos ⟨by omega, cm⟩]
            refine ⟨mI (mI (mL s1 7 V') 5 (Int32.ofNat 2)) 8 (Int32.ofNat P.1), ?_, ⟨e6, rfl, Or.inr (Or.inr (Or.inl ⟨rfl, rfl, hV, cm⟩))⟩, fin _ _ (fI _ _ (fL _ _ f1))⟩
            unfold mf_60_186 mf_60_198 mf_60_213 mf_60_214 mf_60_226
            simp (disch := omega) only [ev_S, ev_P, ↓reduceIte, Nat.reduceEqDiff, Nat.reduceLeDiff, Nat.reduceAdd, Nat.reduceMul, Nat.reduceSub, reduceCtorEq, l32_0, l32_1, l32_2, l32_3, l32_4, l32_5, l32_6, l32_7, l32_8, l32_9, l32_10, e6, l32_10, l64_mx, hV, lg_le]
          · rw [if_neg (fun q => cm q.2)]
            refine ⟨mI (mI (mL s1 7 V') 5 (Int32.ofNat 4)) 8 (Int32.ofNat P.1), ?_, ⟨e6, rfl, Or.inr (Or.inl ⟨rfl, rfl⟩)⟩, fin _ _ (fI _ _ (fL _ _ f1))⟩
            unfold mf_60_186 mf_60_198 mf_60_209 mf_60_214 mf_60_226
            simp (disch := omega) only [ev_S, ev_P, ↓reduceIte, Nat.reduceEqDiff, Nat.reduceLeDiff, Nat.reduceAdd, Nat.reduceMul, Nat.reduceSub, reduceCtorEq, l32_0, l32_1, l32_2, l32_3, l32_4, l32_5, l32_6, l32_7, l32_8, l32_9, l32_10, e6, l32_10, l64_mx, hV, lg_le]
        · rw [if_neg (by omega)]
          refine ⟨mI (mI (mL s1 7 V') 5 (Int32.ofNat 4)) 8 (Int32.ofNat P.1), ?_, ⟨e6, rfl, Or.inr (Or.inl ⟨rfl, rfl⟩)⟩, fin _ _ (fI _ _ (fL _ _ f1))⟩
          unfold mf_60_186 mf_60_209 mf_60_214 mf_60_226
          simp (disch := omega) only [ev_S, ev_P, ↓reduceIte, Nat.reduceEqDiff, Nat.reduceLeDiff, Nat.reduceAdd, Nat.reduceMul, Nat.reduceSub, reduceCtorEq, l32_0, l32_1, l32_2, l32_3, l32_4, l32_5, l32_6, l32_7, l32_8, l32_9, l32_10, e6, l32_10]
      · rw [if_neg cd] at hd ⊢
        obtain ⟨s2, u1, u2, u3, u4⟩ := r_sign (N := N) x1 e6 c
        have ea : (tkS b n a).2.2.2.1 = a := by
          unfold tkS
          split
          · rfl
          · split <;> rfl
        refine ⟨mI s2 8 (Int32.ofNat (tkS b n a).2.2.2.2), ?_, ⟨?_, rfl, ?_⟩, fin _ _ (mfr.tr (s1 := s1) f1 u2)⟩
        · unfold mf_60_47 mf_60_51 mf_60_128 mf_60_132 mf_60_220 mf_60_225 mf_60_226
          simp (disch := omega) only [ev_S, ev_P, ↓reduceIte, Nat.reduceEqDiff, Nat.reduceLeDiff, Nat.reduceAdd, Nat.reduceMul, Nat.reduceSub, reduceCtorEq, l32_0, l32_1, l32_2, l32_3, l32_4, l32_5, l32_6, l32_7, l32_8, l32_9, l32_10, hl, hd, u1]
        · rw [ea]
          exact u3.trans e6
        · rcases u4 with ⟨v1, v2⟩ | ⟨v1, v2, v3, v4⟩
          · exact Or.inr (Or.inl ⟨v1, v2⟩)
          · exact Or.inr (Or.inr (Or.inr (Or.inr ⟨v1, v2, v3, v4⟩)))
  · rw [if_neg c, if_neg c]
    refine ⟨mI (mI s1 5 (Int32.ofNat 0)) 8 (Int32.ofNat a), ?_, ⟨e6, rfl, Or.inl ⟨rfl, rfl⟩⟩, fin _ _ (fI _ _ f1)⟩
    unfold mf_60_22 mf_60_39 mf_60_226
    simp (disch := omega) only [ev_S, ev_P, ↓reduceIte, Nat.reduceEqDiff, Nat.reduceLeDiff, Nat.reduceAdd, Nat.reduceMul, Nat.reduceSub, reduceCtorEq, l32_0, l32_1, l32_2, l32_3, l32_4, l32_5, l32_6, l32_7, l32_8, l32_9, l32_10, e6, e4]
theorem rTx.keep {s' : mS} (h : rTx s b n) (f : fTk s s') : rTx s' b n := by
  obtain ⟨h1, h2, h3, h4⟩ := h
  exact ⟨by rw [f.1 4 (by omega)]; exact h1, h2, h3, by rw [f.2.2.1 2 (fun z => z)]; exact h4⟩
/-- where a token ends -/
theorem lex_e {p : Nat} (hp : p ≤ n) : p ≤ (lex b n p).2.2.2.1 ∧ (lex b n p).2.2.2.1 ≤ (lex b n p).2.2.2.2 ∧ (lex b n p).2.2.2.2 ≤ n ∧ (¬ (lex b n p).1 = 0 → p < (lex b n p).2.2.2.2) ∧ (lex b n p).2.2.2.1 = sk b n p := by
  obtain ⟨k1, k2⟩ := sk_le (b := b) hp
  unfold lex
  generalize sk b n p = a at k1 k2
  unfold tkA
  by_cases c : a < n
  · rw [if_pos c]
    by_cases cl : 97 ≤ b a ∧ b a ≤ 122
    · rw [if_pos cl]
      obtain ⟨f, hf⟩ : ∃ f, n - a = f + 1 := ⟨n - a - 1, by omega⟩
      rw [hf]
      have ew : wrd b n (f + 1) a [] = wrd b n f (a + 1) [b a - 96] := if_pos cl
      rw [ew]
      obtain ⟨o1, o2, o3, o4⟩ := wrd_ok (b := b) (n := n) f (a + 1) [b a - 96] (fun d hd => by
        have := List.mem_singleton.mp hd
        omega)
      generalize wrd b n f (a + 1) [b a - 96] = P at *
      unfold tkW
      split <;> exact ⟨k1, by show a ≤ P.1; omega, by show P.1 ≤ n; omega, fun _ => by show p < P.1; omega, rfl⟩
    · rw [if_neg cl]
      by_cases cd : 48 ≤ b a ∧ b a ≤ 57
      · rw [if_pos cd]
        obtain ⟨f, hf⟩ : ∃ f, n - a = f + 1 := ⟨n - a - 1, by omega⟩
        rw [hf]
        have ew : nmb b n (f + 1) a 0 = nmb b n f (a + 1) (10 * 0 + (b a - 48)) := if_pos cd
        rw [ew]
        obtain ⟨d, o1, o2, o3⟩ := nmb_ok (b := b) (n := n) f (a + 1) (10 * 0 + (b a - 48)) 1 (by omega)
        generalize nmb b n f (a + 1) (10 * 0 + (b a - 48)) = P at *
        unfold tkN
        split <;> exact ⟨k1, by show a ≤ P.1; omega, by show P.1 ≤ n; omega, fun _ => by show p < P.1; omega, rfl⟩
      · rw [if_neg cd]
        unfold tkS
        split
        · exact ⟨k1, by show a ≤ a + 2; omega, by show a + 2 ≤ n; omega, fun _ => by show p < a + 2; omega, rfl⟩
        · split <;> exact ⟨k1, by show a ≤ a + 1; omega, by show a + 1 ≤ n; omega, fun _ => by show p < a + 1; omega, rfl⟩
  · rw [if_neg c]
    exact ⟨k1, Nat.le_refl _, k2, fun q => absurd rfl q, rfl⟩
theorem r_take {k : Tk} (hN : 170000 ≤ N) (h : rTx s b n) (hk : rTk s k) (he : k.2.2.2.2 ≤ n) : ∃ s', mf_260 N s = some (s', none) ∧ rTk s' (lex b n k.2.2.2.2) ∧ fTk s s' := by
  obtain ⟨s', a1, a2, a3⟩ := r_token (N := N) hN h he
  have e8 := hk.2.1
  refine ⟨s', ?_, a2, a3⟩
  repeat ((first | unfold mf_260 | unfold mf_260_0 | unfold mf_260_8); try simp (disch := omega) only [ev_S, ev_P, ↓reduceIte, Nat.reduceEqDiff, Nat.reduceLeDiff, Nat.reduceAdd, Nat.reduceMul, Nat.reduceSub, reduceCtorEq, l32_0, l32_1, l32_2, l32_3, l32_4, l32_8, e8, a1])
end TOL
