/-! ===== PURE: what waits (the reference) ===== -/
def okS (k : Nat) : Prop := isSg k ∨ k = 317 ∨ k = 289 ∨ k = 316 ∨ k = 318
theorem lex_sg {b : Nat → Nat} {n p : Nat} (h : 33 ≤ (lex b n p).1) : okS (lex b n p).1 := by
  revert h
  unfold lex
  generalize sk b n p = a
  unfold tkA
  by_cases c : a < n
  · rw [if_pos c]
    by_cases cl : 97 ≤ b a ∧ b a ≤ 122
    · rw [if_pos cl]
      unfold tkW
      split
      · exact fun h => absurd h (by show ¬ 33 ≤ 3; omega)
      · exact fun h => absurd h (by show ¬ 33 ≤ 1; omega)
    · rw [if_neg cl]
      by_cases cd : 48 ≤ b a ∧ b a ≤ 57
      · rw [if_pos cd]
        unfold tkN
        split
        · exact fun h => absurd h (by show ¬ 33 ≤ 2; omega)
        · exact fun h => absurd h (by show ¬ 33 ≤ 1; omega)
      · rw [if_neg cd]
        unfold tkS
        split
        · rename_i q
          have := eqB_iff.mp q.1
          unfold isEq at this
          intro _
          show okS (b a + 256)
          unfold okS
          omega
        · split
          · rename_i q
            exact fun _ => Or.inl (sgB_iff.mp q)
          · exact fun h => absurd h (by show ¬ 33 ≤ 1; omega)
  · rw [if_neg c]
    exact fun h => absurd h (by show ¬ 33 ≤ 0; omega)
theorem TL_sg {b : Nat → Nat} {n i : Nat} (hi : i < (TL b n).length) (h : 33 ≤ (TL b n)[i].1) : okS (TL b n)[i].1 := by
  cases i with
  | zero =>
    have e : (TL b n)[0] = lex b n 0 := by
      have : tks b n (n + 1) 0 = if (lex b n 0).1 ≤ 1 then [lex b n 0] else lex b n 0 :: tks b n n (lex b n 0).2.2.2.2 := rfl
      simp only [TL, this]
      split <;> rfl
    rw [e] at h ⊢
    exact lex_sg h
  | succ i =>
    have e := (TL_ok (i := i) (by omega)).2.2 hi
    rw [e] at h ⊢
    exact lex_sg h
/-- a sign's level; 9: none -/
def lv (k : Nat) : Nat := if k = 38 ∨ k = 124 then 0 else if k = 317 ∨ k = 289 ∨ k = 60 ∨ k = 316 ∨ k = 62 ∨ k = 318 then 1 else if k = 43 ∨ k = 45 then 2 else if k = 42 ∨ k = 47 ∨ k = 37 then 3 else 9
def lvI (k : Nat) : Int32 := if lv k = 9 then -Int32.ofNat 1 else Int32.ofNat (lv k)
/-- kind, what, how many, where; a name and where it stands -/
abbrev Wt : Type := Nat × Nat × Nat × Nat × Int64 × Nat
def rW (s : mS) (W : List Wt) : Prop := s.1 44 = Int32.ofNat W.length ∧ W.length ≤ 80 ∧ ∀ i (hi : i < W.length), s.2.2.1 38 i = Int32.ofNat W[i].1 ∧ s.2.2.1 39 i = Int32.ofNat W[i].2.1 ∧ s.2.2.1 40 i = Int32.ofNat W[i].2.2.1 ∧ s.2.2.1 41 i = Int32.ofNat W[i].2.2.2.1 ∧ W[i].1 ≤ 8 ∧ (6 ≤ W[i].1 → s.2.2.2 42 i = W[i].2.2.2.2.1 ∧ s.2.2.1 43 i = Int32.ofNat W[i].2.2.2.2.2)
abbrev fW (s s' : mS) : Prop := mfr (fun q => q = 44) (fun _ => False) (fun q => q = 38 ∨ q = 39 ∨ q = 40 ∨ q = 41 ∨ q = 43) (fun q => q = 42) s s'
section WAI
variable {N : Nat} {X : Nat → Option zz_C} {t : cS} {s : mS} {e : Nat} {L : List R5}
theorem r_levelOf {k : Nat} (h : okS k) : mf_282 N (Int32.ofNat (sgv k)) s = some (s, some (.int (lvI k))) := by
  unfold okS isSg at h
  rcases h with (rfl | rfl | rfl | rfl | rfl | rfl | rfl | rfl | rfl | rfl | rfl | rfl | rfl | rfl | rfl | rfl | rfl | rfl | rfl) | rfl | rfl | rfl | rfl
  all_goals (simp only [sgv, lvI, lv, Nat.reduceEqDiff, Nat.reduceLT, if_true, if_false, or_self, or_false, false_or, or_true, true_or, reduceIte]; repeat ((first | unfold mf_282 | unfold mf_282_0 | unfold mf_282_6 | unfold mf_282_12 | unfold mf_282_16 | unfold mf_282_23 | unfold mf_282_29 | unfold mf_282_35 | unfold mf_282_39 | unfold mf_282_45 | unfold mf_282_51 | unfold mf_282_55 | unfold mf_282_61 | unfold mf_282_67 | unfold mf_282_73 | unfold mf_282_77 | unfold mf_282_78); try simp (disch := omega) only [ev_S, ev_P, ↓reduceIte, Nat.reduceEqDiff, Nat.reduceLeDiff, Nat.reduceAdd, Nat.reduceMul, Nat.reduceSub, reduceCtorEq, l32_0, l32_1, l32_2, l32_3, l32_4, l32_37, l32_38, l32_42, l32_43, l32_45, l32_47, l32_60, l32_62, l32_124, l32_256, l32_256]))
theorem c_levelOf {k : Nat} (h : k < 33 ∨ okS k) : cf_187 N X (Int32.ofNat k) t = some (t, .inl (some (.int (lvI k)))) := by
  rcases h with h | h
  · have n1 : lv k = 9 := by
      unfold lv
      rw [if_neg (by omega), if_neg (by omega), if_neg (by omega), if_neg (by omega)]
    unfold lvI
    rw [if_pos n1]
    repeat ((first | unfold cf_187 | unfold cf_187_0 | unfold cf_187_116 | unfold cf_187_118 | unfold cf_187_120 | unfold cf_187_122 | unfold cf_187_124); try simp (disch := omega) only [ev_S, ev_C, ↓reduceIte, Nat.reduceEqDiff, Nat.reduceLeDiff, Nat.reduceAdd, Nat.reduceMul, Nat.reduceSub, reduceCtorEq, l32_0, l32_1, l32_2, l32_3, l32_4, l32_37, l32_38, l32_42, l32_43, l32_45, l32_47, l32_60, l32_62, l32_124, l32_289, l32_316, l32_317, l32_318, l32_289, l32_316, l32_317, l32_318, l32_124])
  · unfold okS isSg at h
    rcases h with (rfl | rfl | rfl | rfl | rfl | rfl | rfl | rfl | rfl | rfl | rfl | rfl | rfl | rfl | rfl | rfl | rfl | rfl | rfl) | rfl | rfl | rfl | rfl
    all_goals (simp only [lvI, lv, Nat.reduceEqDiff, if_true, if_false, or_self, or_false, false_or, or_true, true_or, reduceIte]; repeat ((first | unfold cf_187 | unfold cf_187_0 | unfold cf_187_116 | unfold cf_187_118 | unfold cf_187_120 | unfold cf_187_122 | unfold cf_187_124); try simp (disch := omega) only [ev_S, ev_C, ↓reduceIte, Nat.reduceEqDiff, Nat.reduceLeDiff, Nat.reduceAdd, Nat.reduceMul, Nat.reduceSub, reduceCtorEq, l32_0, l32_1, l32_2, l32_3, l32_4, l32_37, l32_38, l32_42, l32_43, l32_45, l32_47, l32_60, l32_62, l32_124, l32_289, l32_316, l32_317, l32_318, l32_289, l32_316, l32_317, l32_318, l32_124, l32_123, l32_125]))
theorem r_wait {k a p : Nat} {W : List Wt} (h : rW s W) (hl : W.length < 80) (hk : k < 6) : ∃ s', mf_281 N (Int32.ofNat k) (Int32.ofNat a) (Int32.ofNat p) s = some (s', none) ∧ rW s' (W ++ [(k, a, 0, p, 0, 0)]) ∧ fW s s' := by
  obtain ⟨h1, h2, h3⟩ := h
  have ll : (W ++ [(k, a, 0, p, (0 : Int64), 0)]).length = W.length + 1 := List.length_append
  refine ⟨mI (mA (mA (mA (mA s 38 (upd (s.2.2.1 38) W.length (Int32.ofNat k))) 39 (upd (s.2.2.1 39) W.length (Int32.ofNat a))) 40 (upd (s.2.2.1 40) W.length (Int32.ofNat 0))) 41 (upd (s.2.2.1 41) W.length (Int32.ofNat p))) 44 (Int32.ofNat (W.length + 1)), ?_, ⟨by rw [ll]; rfl, by rw [ll]; omega, fun i hi => ?_⟩, ⟨fun q r => if_neg r, fun _ _ => rfl, fun q r => ?_, fun _ _ => rfl⟩⟩
  · repeat ((first | unfold mf_281 | unfold mf_281_0); try simp (disch := omega) only [ev_S, ev_P, ↓reduceIte, Nat.reduceEqDiff, Nat.reduceLeDiff, Nat.reduceAdd, Nat.reduceMul, Nat.reduceSub, reduceCtorEq, l32_0, l32_1, l32_2, l32_3, l32_4, l32_38, l32_39, l32_40, l32_41, l32_44, h1])
  · rw [ll] at hi
    by_cases c : i < W.length
    · rw [List.getElem_append_left c]
      obtain ⟨q1, q2, q3, q4, q5, q6⟩ := h3 i c
      exact ⟨(upd_n (by omega)).trans q1, (upd_n (by omega)).trans q2, (upd_n (by omega)).trans q3, (upd_n (by omega)).trans q4, q5, q6⟩
    · have ei : i = W.length := by omega
      subst ei
      rw [List.getElem_append_right (Nat.le_refl _)]
      simp only [Nat.sub_self, List.getElem_cons_zero]
      exact ⟨if_pos rfl, if_pos rfl, if_pos rfl, if_pos rfl, by omega, fun q => by omega⟩
  · show (if q = 41 then _ else if q = 40 then _ else if q = 39 then _ else if q = 38 then _ else s.2.2.1 q) = _
    rw [if_neg (by omega), if_neg (by omega), if_neg (by omega), if_neg (by omega)]
theorem r_isW {k : Nat} {W : List Wt} {w : Wt} (h : rW s (W ++ [w])) (hk : k ≤ 8) : mf_283 N (Int32.ofNat k) s = some (s, some (.int (if w.1 = k then 1 else 0))) := by
  obtain ⟨h1, h2, h3⟩ := h
  have ll : (W ++ [w]).length = W.length + 1 := List.length_append
  rw [ll] at h1 h2
  obtain ⟨q1, q2, q3, q4, q5, q6⟩ := h3 W.length (by omega)
  rw [List.getElem_append_right (Nat.le_refl _)] at q1 q5
  simp only [Nat.sub_self, List.getElem_cons_zero] at q1 q5
  by_cases c : w.1 = k
  · rw [if_pos c]
    rw [c] at q1
    repeat ((first | unfold mf_283 | unfold mf_283_0 | unfold mf_283_7 | unfold mf_283_22 | unfold mf_283_26 | unfold mf_283_27); try simp (disch := omega) only [ev_S, ev_P, ↓reduceIte, Nat.reduceEqDiff, Nat.reduceLeDiff, Nat.reduceAdd, Nat.reduceMul, Nat.reduceSub, reduceCtorEq, l32_0, l32_1, l32_2, l32_3, l32_4, l32_38, l32_44, h1, q1])
  · rw [if_neg c]
    repeat ((first | unfold mf_283 | unfold mf_283_0 | unfold mf_283_7 | unfold mf_283_22 | unfold mf_283_26 | unfold mf_283_27); try simp (disch := omega) only [ev_S, ev_P, ↓reduceIte, Nat.reduceEqDiff, Nat.reduceLeDiff, Nat.reduceAdd, Nat.reduceMul, Nat.reduceSub, reduceCtorEq, l32_0, l32_1, l32_2, l32_3, l32_4, l32_38, l32_44, h1, q1, c])
theorem r_isW0 {k : Nat} (h : rW s []) : mf_283 N (Int32.ofNat k) s = some (s, some (.int 0)) := by
  have h1 : s.1 44 = Int32.ofNat 0 := h.1
  repeat ((first | unfold mf_283 | unfold mf_283_0 | unfold mf_283_7 | unfold mf_283_22 | unfold mf_283_26 | unfold mf_283_27); try simp (disch := omega) only [ev_S, ev_P, ↓reduceIte, Nat.reduceEqDiff, Nat.reduceLeDiff, Nat.reduceAdd, Nat.reduceMul, Nat.reduceSub, reduceCtorEq, l32_0, l32_1, l32_2, l32_3, l32_4, l32_38, l32_44, h1])
theorem rW.pop {W : List Wt} {w : Wt} (h : rW s (W ++ [w])) : rW (mI s 44 (Int32.ofNat W.length)) W := by
  obtain ⟨h1, h2, h3⟩ := h
  have ll : (W ++ [w]).length = W.length + 1 := List.length_append
  rw [ll] at h1 h2
  refine ⟨rfl, by omega, fun i hi => ?_⟩
  have := h3 i (by omega)
  rw [List.getElem_append_left hi] at this
  exact this
/-- a sign that waits for what is behind it -/
abbrev bt (z : Nat × Nat) : Wt := (1, sgv z.1, 0, z.2, 0, 0)
abbrev od (z : Nat × Nat) : R5 := (5, Int32.ofNat (sgv z.1), 0, 0, Int32.ofNat z.2)
/-- reduce's stop: nothing of that level waits on top -/
def stp (l : Nat) (W : List Wt) : Prop := W = [] ∨ ∃ W' w, W = W' ++ [w] ∧ (¬ w.1 = 1 ∨ ∃ z : Nat × Nat, w = bt z ∧ okS z.1 ∧ lv z.1 < l)
theorem rCd.pop {x : Int32} (h : rCd s e L) : rCd (mI s 44 x) e L := h
theorem r_reduce {l : Nat} {W : List Wt} (hl : l ≤ 3) (hs : stp l W) : ∀ (Z : List (Nat × Nat)) (q : Nat) (s : mS) (L : List R5), rW s (W ++ Z.map bt) → rCd s e L → L.length + Z.length < 3900 → (∀ z ∈ Z, okS z.1 ∧ l ≤ lv z.1 ∧ lv z.1 ≤ 3) → ∃ s', mf_284_L1 N (q + (Z.length + 1)) 0 (Int32.ofNat l) s = some (s', none) ∧ rW s' W ∧ rCd s' e (L ++ Z.reverse.map od) ∧ s'.1 44 = Int32.ofNat W.length ∧ (∀ q, ¬ (q = 44 ∨ q = 28) → s'.1 q = s.1 q) ∧ fO e (mI s 44 0) (mI s' 44 0) := by
  have e0 : ∀ q x s, mf_284_L1 N (q + 1) 0 x s = mf_284_0 N (mf_284_L1 N q) x s := fun _ _ _ => rfl
  intro Z
  induction hZ : Z.length generalizing Z with
  | zero =>
    intro q s L hW hL hn hz
    have : Z = [] := List.length_eq_zero_iff.mp hZ
    subst this
    have hW : rW s (W ++ []) := hW
    rw [List.append_nil] at hW
    refine ⟨s, ?_, hW, by show rCd s e (L ++ []); rw [List.append_nil]; exact hL, hW.1, fun _ _ => rfl, fO.rf⟩
    show mf_284_L1 N (q + 1) 0 (Int32.ofNat l) s = _
    rw [e0]
    rcases hs with rfl | ⟨W', w, rfl, hw⟩
    · have i0 := r_isW0 (N := N) (k := 1) hW
      repeat ((first | unfold mf_284 | unfold mf_284_0 | unfold mf_284_5 | unfold mf_284_8 | unfold mf_284_22 | unfold mf_284_26 | unfold mf_284_60 | unfold mf_284_64); try simp (disch := omega) only [ev_S, ev_P, ↓reduceIte, Nat.reduceEqDiff, Nat.reduceLeDiff, Nat.reduceAdd, Nat.reduceMul, Nat.reduceSub, reduceCtorEq, l32_0, l32_1, l32_2, l32_3, l32_4, l32_5, l32_39, l32_41, l32_44, i0])
    · have i0 := r_isW (N := N) (k := 1) hW (by decide)
      rcases hw with hw | ⟨z, rfl, hz1, hz2⟩
      · rw [if_neg hw] at i0
        repeat ((first | unfold mf_284 | unfold mf_284_0 | unfold mf_284_5 | unfold mf_284_8 | unfold mf_284_22 | unfold mf_284_26 | unfold mf_284_60 | unfold mf_284_64); try simp (disch := omega) only [ev_S, ev_P, ↓reduceIte, Nat.reduceEqDiff, Nat.reduceLeDiff, Nat.reduceAdd, Nat.reduceMul, Nat.reduceSub, reduceCtorEq, l32_0, l32_1, l32_2, l32_3, l32_4, l32_5, l32_39, l32_41, l32_44, i0])
      · rw [if_pos rfl] at i0
        obtain ⟨h1, h2, h3⟩ := hW
        have ll : (W' ++ [bt z]).length = W'.length + 1 := List.length_append
        rw [ll] at h1 h2
        obtain ⟨q1, q2, q3, q4, q5, q6⟩ := h3 W'.length (by omega)
        rw [List.getElem_append_right (Nat.le_refl _)] at q2
        simp only [Nat.sub_self, List.getElem_cons_zero] at q2
        have lo := r_levelOf (N := N) (s := s) hz1
        have el : lvI z.1 = Int32.ofNat (lv z.1) := if_neg (by omega)
        rw [el] at lo
        repeat ((first | unfold mf_284 | unfold mf_284_0 | unfold mf_284_5 | unfold mf_284_8 | unfold mf_284_22 | unfold mf_284_26 | unfold mf_284_60 | unfold mf_284_64); try simp (disch := omega) only [ev_S, ev_P, ↓reduceIte, Nat.reduceEqDiff, Nat.reduceLeDiff, Nat.reduceAdd, Nat.reduceMul, Nat.reduceSub, reduceCtorEq, l32_0, l32_1, l32_2, l32_3, l32_4, l32_5, l32_39, l32_41, l32_44, i0, h1, q2, lo])
  | succ m ih =>
    intro q s L hW hL hn hz
    obtain ⟨Z', z, rfl⟩ : ∃ Z' z, Z = Z' ++ [z] := by
      refine ⟨Z.dropLast, Z.getLast (fun q => by rw [q] at hZ; cases hZ), (List.dropLast_concat_getLast _).symm⟩
    have hZ' : Z'.length = m := by
      rw [List.length_append] at hZ
      exact Nat.succ.inj hZ
    rw [List.map_append, ← List.append_assoc] at hW
    have hW : rW s ((W ++ Z'.map bt) ++ [bt z]) := hW
    obtain ⟨z1, z2, z3⟩ := hz z (List.mem_append_right _ (List.mem_singleton.mpr rfl))
    have i0 := r_isW (N := N) (k := 1) hW (by decide)
    rw [if_pos rfl] at i0
    have hW' := hW
    obtain ⟨h1, h2, h3⟩ := hW'
    have ll : ((W ++ Z'.map bt) ++ [bt z]).length = (W ++ Z'.map bt).length + 1 := List.length_append
    rw [ll] at h1 h2
    obtain ⟨q1, q2, q3, q4, q5, q6⟩ := h3 (W ++ Z'.map bt).length (by omega)
    rw [List.getElem_append_right (Nat.le_refl _)] at q2 q4
    simp only [Nat.sub_self, List.getElem_cons_zero] at q2 q4
    have lo := r_levelOf (N := N) (s := s) z1
    have el : lvI z.1 = Int32.ofNat (lv z.1) := if_neg (by omega)
    rw [el] at lo
    obtain ⟨s1, a1, a2, a3⟩ := r_order (N := N) (x1 := Int32.ofNat 5) (x2 := Int32.ofNat (sgv z.1)) (x3 := Int32.ofNat 0) (x4 := Int32.ofNat z.2) (rCd.pop (x := Int32.ofNat (W ++ Z'.map bt).length) hL) (by omega)
    have b0 : rW s1 (W ++ Z'.map bt) := by
      have hp := hW.pop
      obtain ⟨p1, p2, p3⟩ := hp
      refine ⟨by rw [a3.1 44 (by decide)]; exact p1, p2, fun i hi => ?_⟩
      obtain ⟨y1, y2, y3, y4, y5, y6⟩ := p3 i hi
      refine ⟨by rw [a3.2.2.1 38 (by omega)]; exact y1, by rw [a3.2.2.1 39 (by omega)]; exact y2, by rw [a3.2.2.1 40 (by omega)]; exact y3, by rw [a3.2.2.1 41 (by omega)]; exact y4, y5, fun z => ?_⟩
      rw [a3.2.2.2.1 42, a3.2.2.1 43 (by omega)]
      exact y6 z
    obtain ⟨s', c1, c2, c3, c4, c5, c6⟩ := ih Z' hZ' q s1 (L ++ [od z]) b0 a2 (by rw [List.length_append]; show L.length + 1 + m < 3900; omega) (fun y hy => hz y (List.mem_append_left _ hy))
    refine ⟨s', ?_, c2, ?_, c4, fun q r => (c5 q r).trans ?_, ?_⟩
    · rw [← c1, ← Nat.add_assoc, e0]
      unfold mf_284_0 mf_284_5 mf_284_8 mf_284_22 mf_284_26 mf_284_60
      simp (disch := omega) only [ev_S, ev_P, ↓reduceIte, Nat.reduceEqDiff, Nat.reduceLeDiff, Nat.reduceAdd, Nat.reduceMul, Nat.reduceSub, reduceCtorEq, l32_0, l32_1, l32_2, l32_3, l32_4, l32_5, l32_6, l32_7, l32_8, l32_9, l32_10, i0, h1, q2, q4, lo, a1]
    · rw [List.reverse_append, List.map_append]
      rw [List.append_assoc] at c3
      exact c3
    · rw [a3.1 q (fun z => r (Or.inr z))]
      exact if_neg (fun z => r (Or.inl z))
    · refine fO.tr (s1 := mI s1 44 0) ⟨fun q r => ?_, a3.2.1, a3.2.2.1, a3.2.2.2.1, a3.2.2.2.2⟩ c6
      show (if q = 44 then _ else s1.1 q) = (if q = 44 then _ else s.1 q)
      split
      · rfl
      · rename_i z
        rw [a3.1 q r]
        exact if_neg z
end WAI
