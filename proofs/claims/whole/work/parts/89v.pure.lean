/-! ===== PURE: what both sides answer on an expression ===== -/
section RES
variable {N : Nat} {X : Nat → Option zz_C} {t t' : cS} {s s' s1 s2 : mS} {b : Nat → Nat} {n p e i op D D' : Nat} {code code1 code2 fl : List Ins} {vs : List (List Nat)} {cl : List Cn} {W W' : List Wt} {cu cu' : List Nat} {fs : Nat × Nat × Nat} {al : Int32} {rk : Nat → List Value → cS → kO} {Z : List (Nat × Nat)} {ah : Option (Nat × Nat)}
/-- both tell the same fault -/
def FLT (N : Nat) (b : Nat → Nat) (n p e i : Nat) (al h : Int32) (t : cS) (s : mS) (R : kO) : Prop := ∃ t' s' k, R = some (t', .inr ()) ∧ k + i ≤ (TL b n).length + 1 ∧ (∀ f, LL N (f + k) al h s = some (s', none)) ∧ pF t' s' ∧ FX p e t t' s s'
/-- what may stand behind -/
def PZ (l : Nat) (Z : List (Nat × Nat)) (k : Nat) : Prop := ¬ k = 91 ∧ (lv k = 9 ∨ lv k < l ∨ (lv k = 1 ∧ one1 Z))
def RX (N : Nat) (b : Nat → Nat) (n p e l i op D : Nat) (code : List Ins) (W : List Wt) (cu : List Nat) (fs : Nat × Nat × Nat) (al : Int32) (t : cS) (s : mS) (R : kO) : Prop := (∃ t' s' k i' seg code1 vs' cl' Z ah, R = some (t', .inl none) ∧ i < i' ∧ k + i ≤ i' ∧ (∀ f, LL N (f + k) al (Int32.ofNat 0) s = LL N f al (Int32.ofNat 1) s') ∧ PE b n p e i' op D (code ++ seg) code1 vs' cl' (W ++ Z.map bt ++ ahW ah) (0 :: cu) fs t' s' ∧ code ++ seg = code1 ++ ahI ah ++ Z.reverse.map twI ∧ okA ah ∧ (∀ z ∈ Z, okS z.1 ∧ l ≤ lv z.1 ∧ lv z.1 ≤ 3) ∧ (∀ hi : i' < (TL b n).length, PZ l Z (TL b n)[i'].1) ∧ FR p e t t' s s') ∨ FLT N b n p e i al (Int32.ofNat 0) t s R
def RS (N : Nat) (b : Nat → Nat) (n p e i op D : Nat) (code : List Ins) (W : List Wt) (cu : List Nat) (fs : Nat × Nat × Nat) (al : Int32) (t : cS) (s : mS) (R : kO) : Prop := (∃ t' s' k i' seg vs' cl', R = some (t', .inl none) ∧ i < i' ∧ k + i ≤ i' ∧ (∀ f, LL N (f + k) al (Int32.ofNat 0) s = LL N f al (Int32.ofNat 1) s') ∧ PE b n p e i' op D (code ++ seg) (code ++ seg) vs' cl' W (0 :: cu) fs t' s' ∧ FR p e t t' s s') ∨ FLT N b n p e i al (Int32.ofNat 0) t s R
/-- the round that ends an expression -/
theorem PE.flu (hN : 170000 ≤ N) (h : PE b n p e i op D code code1 vs cl (W ++ Z.map bt ++ ahW ah) cu fs t s) (hf : code = code1 ++ ahI ah ++ Z.reverse.map twI) (hA : okA ah) (hz : ∀ z ∈ Z, okS z.1 ∧ lv z.1 ≤ 3) (hk : ∀ hi : i < (TL b n).length, PZ 0 Z (TL b n)[i].1) (hs : HW 0 W) (ha : al = 0 ∨ ¬ W = []) : ∃ s', (∀ f, LL N (f + 1) al (Int32.ofNat 1) s = mf_285_215 N (mf_285_L3 N f) al s') ∧ PE b n p e i op D code code vs cl W cu fs t s' ∧ FR p e t t s s' := by
  have h9 : s.1 9 = Int32.ofNat 0 := h.1.2.2.2.2.2.2.2.2.2
  have h5 := h.2.2.2.2.1
  have hne : al = 0 ∨ ¬ s.1 44 = Int32.ofNat 0 := by
    rcases ha with z | z
    · exact Or.inl z
    · refine Or.inr fun y => ?_
      rw [h5.1] at y
      have l1 : 0 < W.length := List.length_pos_iff.mpr z
      have l2 := h5.2.1
      rw [ev_eq (by omega) (by omega)] at y
      rw [List.length_append, List.length_append] at y
      omega
  obtain ⟨hi, e5, e6, e7, hkk, ho, he, hlt, hll⟩ := h.1.now
  have g1 := r_isSign (N := N) (s := s) (c := 91) hkk (by decide) (by decide)
  rw [if_neg (hk hi).1] at g1
  obtain ⟨s1, a1, a2, a3⟩ := PE.ahf (N := N) (al := al) (fl := Z.reverse.map twI) h hA hf (fun W' w hw hw2 => by
    rcases List.eq_nil_or_concat Z with c | ⟨Z', z, c⟩
    · rw [c] at hw
      have hw : W ++ [] = W' ++ [w] := hw
      rw [List.append_nil] at hw
      rcases hs with z | ⟨W1, w1, z1, z2⟩
      · rw [z] at hw
        simp at hw
      · rw [z1] at hw
        have hq := (List.append_inj' hw rfl).2
        have hq2 : w1 = w := by injection hq
        rw [hq2] at z2
        rcases z2 with z2 | ⟨z, z2, z3, z4⟩
        · omega
        · omega
    · rw [List.concat_eq_append] at c
      rw [c, List.map_append, ← List.append_assoc] at hw
      have hq := (List.append_inj' hw rfl).2
      have hq2 : bt z = w := by injection hq
      rw [← hq2] at hw2
      exact absurd (show (1 : Nat) = 2 from hw2) (by decide))
  obtain ⟨s2, b1, b2, b3⟩ := PE.fin (N := N) (al := al) hN a2 (fun hi => by
    rcases (hk hi).2 with z | z | z
    · exact Or.inl z
    · omega
    · exact Or.inr z) hs hz hf
  refine ⟨s2, fun f => ?_, b2, a3.tr b3⟩
  rw [LL_1 h9 hne, ← b1, ← a1]
  unfold mf_285_38 mf_285_44
  simp (disch := omega) only [ev_S, ev_P, ↓reduceIte, Nat.reduceEqDiff, Nat.reduceLeDiff, Nat.reduceAdd, Nat.reduceMul, Nat.reduceSub, reduceCtorEq, l32_0, l32_1, l32_2, l32_3, l32_4, l32_5, l32_6, l32_7, l32_8, l32_9, l32_10, l32_11, l32_12, l32_13, l32_14, l32_15, l32_16, l32_17, l32_18, l32_19, l32_20, l32_21, l32_22, l32_23, l32_24, l32_25, l32_26, l32_27, l32_28, l32_29, l32_33, l32_40, l32_41, l32_44, l32_45, l32_59, l32_61, l32_91, l32_93, l32_123, l32_125, g1]
theorem L215 {f : Nat} {w : Wt} (h : rW s (W ++ [w])) : mf_285_215 N (mf_285_L3 N f) al s = mo_bi (mf_288 N s) (fun s1 y => LL N f al y s1) := by
  obtain ⟨q0, q1, _⟩ := w_last h
  unfold mf_285_215 mf_285_223 mf_285_227
  simp (disch := omega) only [ev_S, ev_P, ↓reduceIte, Nat.reduceEqDiff, Nat.reduceLeDiff, Nat.reduceAdd, Nat.reduceMul, Nat.reduceSub, reduceCtorEq, l32_0, l32_1, l32_2, l32_3, l32_4, l32_5, l32_6, l32_7, l32_8, l32_9, l32_10, l32_11, l32_12, l32_13, l32_14, l32_15, l32_16, l32_17, l32_18, l32_19, l32_20, l32_21, l32_22, l32_23, l32_24, l32_25, l32_26, l32_27, l32_28, l32_29, l32_33, l32_40, l32_41, l32_44, l32_45, l32_59, l32_61, l32_91, l32_93, l32_123, l32_125, q0]
theorem L215_0 {rc : Nat → Int32 → Int32 → mS → mO} (h : rW s []) : mf_285_215 N rc al s = some (s, none) := by
  have q0 : s.1 44 = Int32.ofNat 0 := h.1
  unfold mf_285_215 mf_285_222
  simp (disch := omega) only [ev_S, ev_P, ↓reduceIte, Nat.reduceEqDiff, Nat.reduceLeDiff, Nat.reduceAdd, Nat.reduceMul, Nat.reduceSub, reduceCtorEq, l32_0, l32_1, l32_2, l32_3, l32_4, l32_5, l32_6, l32_7, l32_8, l32_9, l32_10, l32_11, l32_12, l32_13, l32_14, l32_15, l32_16, l32_17, l32_18, l32_19, l32_20, l32_21, l32_22, l32_23, l32_24, l32_25, l32_26, l32_27, l32_28, l32_29, l32_33, l32_40, l32_41, l32_44, l32_45, l32_59, l32_61, l32_91, l32_93, l32_123, l32_125, q0]
/-- one E more -/
abbrev inc (w : Wt) : Wt := (w.1, w.2.1, w.2.2.1 + 1, w.2.2.2)
theorem PE.nc {w : Wt} (h : PE b n p e i op D code code1 vs cl (W ++ [w]) cu fs t s) : PE b n p e i op D code code1 vs cl (W ++ [inc w]) cu fs t (mA s 40 (upd (s.2.2.1 40) W.length (Int32.ofNat (w.2.2.1 + 1)))) ∧ FR p e t t s (mA s 40 (upd (s.2.2.1 40) W.length (Int32.ofNat (w.2.2.1 + 1)))) := by
  have h5 := h.2.2.2.2.1
  refine h.wt ⟨?_, ?_, fun j hj => ?_⟩ ⟨fun _ _ => rfl, fun _ _ => rfl, fun q r => ?_, fun _ _ => rfl⟩
  · rw [List.length_append]
    have := h5.1
    rw [List.length_append] at this
    exact this
  · rw [List.length_append]
    have := h5.2.1
    rw [List.length_append] at this
    exact this
  · have hl : (W ++ [w]).length = W.length + 1 := List.length_append
    have hl2 : (W ++ [inc w]).length = W.length + 1 := List.length_append
    by_cases c : j < W.length
    · have h6 := h5.2.2 j (by omega)
      rw [List.getElem_append_left c] at h6 ⊢
      obtain ⟨y1, y2, y3, y4, y5, y6⟩ := h6
      exact ⟨y1, y2, (upd_n (by omega)).trans y3, y4, y5, y6⟩
    · have ej : j = W.length := by omega
      subst ej
      have h6 := h5.2.2 W.length (by omega)
      rw [List.getElem_append_right (Nat.le_refl _)] at h6 ⊢
      simp only [Nat.sub_self, List.getElem_cons_zero] at h6 ⊢
      obtain ⟨y1, y2, y3, y4, y5, y6⟩ := h6
      exact ⟨y1, y2, if_pos rfl, y4, y5, y6⟩
  · show (if q = 40 then _ else s.2.2.1 q) = _
    rw [if_neg (by omega)]
end RES
