/-! ===== PURE: all tokens of the text ===== -/
def tks (b : Nat → Nat) (n : Nat) : Nat → Nat → List Tk
  | 0, _ => []
  | f + 1, p => if (lex b n p).1 ≤ 1 then [lex b n p] else lex b n p :: tks b n f (lex b n p).2.2.2.2
theorem tks_len {b : Nat → Nat} {n : Nat} : ∀ (f p : Nat), (tks b n f p).length ≤ f
  | 0, _ => Nat.le_refl _
  | f + 1, p => by
    unfold tks
    split
    · exact Nat.succ_le_succ (Nat.zero_le _)
    · exact Nat.succ_le_succ (tks_len f _)
section SCA
variable {N : Nat} {X : Nat → Option zz_C} {b : Nat → Nat} {n x1 : Nat}
theorem c_scanL (hN : 170000 ≤ N) (hX : oX N X) : ∀ (f p i q : Nat) (t : cS) (L : List (Int32 × Int32 × Int64)), n - p < f → i ≤ p → p ≤ n → cTx t x1 b n → cT3 t L → L.length + f < 6500 → ∃ t', cf_40_L2 N X (q + (f + 1)) 0 x1 (Int32.ofNat n) (Int32.ofNat p) (Int32.ofNat i) t = cf_40_55 N X t' ∧ cT3 t' (L ++ (tks b n f p).map c3) ∧ gL eTk aTk t t' := by
  intro f
  induction f with
  | zero =>
    intro p i q t L hf
    exact absurd hf (Nat.not_lt_zero _)
  | succ f ih =>
    intro p i q t L hf hi hp h h3 hl
    have h4 := h.2.2.2.1
    have sk1 := c_skipBlanks (N := N) (X := X) hN h hp
    obtain ⟨k1, k2⟩ := sk_le (b := b) hp
    obtain ⟨t1, a1, a2, a3⟩ := c_scanOne (N := N) (X := X) hN hX h h3 (by omega) k2
    obtain ⟨l1, l2, l3, l4, l5⟩ := lex_e (b := b) hp
    have el : tkA b n (sk b n p) = lex b n p := rfl
    rw [el] at a1 a2
    have st : cf_40_L2 N X (q + (f + 1 + 1)) 0 x1 (Int32.ofNat n) (Int32.ofNat p) (Int32.ofNat i) t = cf_40_L2 N X (q + (f + 1)) 0 x1 (Int32.ofNat n) (nx (lex b n p)) (Int32.ofNat (i + 1)) t1 := by
      show cf_40_23 N X (cf_40_L2 N X (q + (f + 1))) x1 (Int32.ofNat n) (Int32.ofNat p) (Int32.ofNat i) t = _
      unfold cf_40_23 cf_40_29 cf_40_34 cf_40_44 cf_40_47
      simp (disch := omega) only [ev_S, ev_C, ↓reduceIte, Nat.reduceEqDiff, Nat.reduceLeDiff, Nat.reduceAdd, Nat.reduceMul, Nat.reduceSub, reduceCtorEq, l32_0, l32_1, l32_2, l32_3, l32_4, l32_5, l32_6, l32_7, l32_8, l32_9, l32_10, sk1, a1]
    rw [st]
    unfold tks
    by_cases c : (lex b n p).1 ≤ 1
    · rw [if_pos c]
      have en : nx (lex b n p) = -Int32.ofNat 1 := if_pos c
      refine ⟨t1, ?_, a2, a3⟩
      rw [en]
      show cf_40_23 N X (cf_40_L2 N X (q + f)) x1 (Int32.ofNat n) (-Int32.ofNat 1) (Int32.ofNat (i + 1)) t1 = _
      by_cases c2 : n < i + 1
      · unfold cf_40_23
        simp (disch := omega) only [ev_S, ev_C, ↓reduceIte, Nat.reduceEqDiff, Nat.reduceLeDiff, Nat.reduceAdd, Nat.reduceMul, Nat.reduceSub, reduceCtorEq, l32_0, l32_1, l32_2, l32_3, l32_4, l32_5, l32_6, l32_7, l32_8, l32_9, l32_10, a1]
      · unfold cf_40_23 cf_40_29
        simp (disch := omega) only [ev_S, ev_C, ↓reduceIte, Nat.reduceEqDiff, Nat.reduceLeDiff, Nat.reduceAdd, Nat.reduceMul, Nat.reduceSub, reduceCtorEq, l32_0, l32_1, l32_2, l32_3, l32_4, l32_5, l32_6, l32_7, l32_8, l32_9, l32_10, a1]
    · rw [if_neg c]
      have en : nx (lex b n p) = Int32.ofNat (lex b n p).2.2.2.2 := if_neg c
      have lp := l4 (by omega)
      obtain ⟨t', b1, b2, b3⟩ := ih (lex b n p).2.2.2.2 (i + 1) q t1 (L ++ [c3 (lex b n p)]) (by omega) (by omega) l3 (h.keep a3 (by omega)) a2 (by rw [List.length_append]; show L.length + 1 + f < _; omega)
      refine ⟨t', ?_, ?_, gL.tr (t1 := t1) a3 b3⟩
      · rw [en]
        exact b1
      · rw [List.map_cons]
        rw [List.append_assoc] at b2
        exact b2
/-- token i is the one that stands there now -/
def cNow (t : cS) (L : List (Int32 × Int32 × Int64)) (i : Nat) : Prop := kI t 3 4 = Int32.ofNat i ∧ ∃ hi : i < L.length, kI t 3 5 = L[i].1 ∧ kI t 3 6 = L[i].2.1 ∧ kL t 3 7 = L[i].2.2
abbrev eNow : Nat → Nat → Prop := fun k f => k = 3 ∧ (f = 4 ∨ f = 5 ∨ f = 6)
theorem c_adv {t : cS} {L : List (Int32 × Int32 × Int64)} {i : Nat} (h3 : cT3 t L) (hl : L.length < 6500) (hi : i < L.length) (h : kI t 3 4 + 1 = Int32.ofNat i ∨ (kI t 3 4 = Int32.ofNat i ∧ i + 1 = L.length)) : ∃ t', cf_46 N X t = some (t', .inl none) ∧ cNow t' L i ∧ cT3 t' L ∧ gL eNow (fun _ => False) t t' := by
  have h3' := h3
  obtain ⟨h1, h2, e5, e6, h5, h6, h7, h8⟩ := h3'
  obtain ⟨g4, g5, g6⟩ := h2 i hi
  have el : Int32.ofNat L.length - 1 = Int32.ofNat (L.length - 1) := by
    rw [l32_1, ev_sub (by omega)]
  have ei : (if kI t 3 3 - 1 < kI t 3 4 + 1 then kI t 3 3 - 1 else kI t 3 4 + 1) = Int32.ofNat i := by
    rw [h1, el]
    rcases h with h | ⟨h, h0⟩
    · rw [h, if_neg (fun q => by have := (i32lt (by omega) (by omega)).mp q; omega)]
    · rw [h, l32_1, i32add, if_pos ((i32lt (by omega) (by omega)).mpr (by omega)), show L.length - 1 = i by omega]
  refine ⟨jL (jI (jI (jI t 3 4 (Int32.ofNat i)) 3 5 (L[i]).1) 3 6 (L[i]).2.1) 3 7 (L[i]).2.2, ?_, ⟨rfl, hi, rfl, rfl, rfl⟩, ⟨h1, h2, e5, e6, h5, h6, h7, h8⟩, ⟨fun k f r => ?_, fun _ _ _ => rfl, fun _ _ _ => ⟨rfl, rfl, rfl⟩, rfl, rfl, Nat.le_refl _, Nat.le_refl _, Nat.le_refl _⟩⟩
  · unfold cf_46 cf_46_0
    rw [ei]
    unfold cf_46_26 cf_46_37 cf_46_76
    simp (disch := omega) only [ev_S, ev_C, ↓reduceIte, Nat.reduceEqDiff, Nat.reduceLeDiff, Nat.reduceAdd, Nat.reduceMul, Nat.reduceSub, reduceCtorEq, l32_0, l32_1, l32_2, l32_3, l32_4, l32_5, l32_6, l32_7, l32_8, l32_9, l32_10, h1, e5, e6, g4, g5, g6]
  · show (if k = 3 ∧ f = 6 then _ else if k = 3 ∧ f = 5 then _ else if k = 3 ∧ f = 4 then _ else kI t k f) = _
    rw [if_neg (by omega), if_neg (by omega), if_neg (by omega)]
/-- the whole text -/
theorem c_scan {t : cS} (hN : 170000 ≤ N) (hX : oX N X) (h : cTx t x1 b n) (h3 : ∃ L, cT3 t L) : ∃ t', cf_40 N X x1 (Int32.ofNat n) t = some (t', .inl none) ∧ cT3 t' ((tks b n (n + 1) 0).map c3) ∧ cNow t' ((tks b n (n + 1) 0).map c3) 0 ∧ gL (fun k f => k = 3 ∧ (f = 3 ∨ f = 4 ∨ f = 5 ∨ f = 6)) aTk t t' := by
  obtain ⟨L0, h1, h2, e5, e6, h5, h6, h7, h8⟩ := h3
  obtain ⟨g1, g2, g3, g4, g5, g6⟩ := h
  obtain ⟨t1, ht1⟩ : ∃ t1, t1 = jI (jI t 3 3 (Int32.ofNat 0)) 3 4 (-Int32.ofNat 1) := ⟨_, rfl⟩
  have x0 : cTx t1 x1 b n := by rw [ht1]; exact ⟨g1, g2, g3, g4, g5, g6⟩
  have y0 : cT3 t1 [] := by rw [ht1]; exact ⟨rfl, fun i hi => absurd hi (Nat.not_lt_zero _), e5, e6, Nat.zero_le _, h6, h7, h8⟩
  obtain ⟨t2, a1, a2, a3⟩ := c_scanL (N := N) (X := X) (b := b) (n := n) (x1 := x1) hN hX (n + 1) 0 0 (N - (n + 1 + 1)) t1 [] (by omega) (Nat.le_refl _) (Nat.zero_le _) x0 y0 (by show 0 + (n + 1) < _; omega)
  rw [show N - (n + 1 + 1) + (n + 1 + 1) = N by omega] at a1
  rw [List.nil_append] at a2
  have hlen := tks_len (b := b) (n := n) (n + 1) 0
  have hpos : 0 < ((tks b n (n + 1) 0).map c3).length := by
    rw [List.length_map]
    unfold tks
    split
    · exact Nat.succ_pos _
    · exact Nat.succ_pos _
  have e34 : kI t2 3 4 = -Int32.ofNat 1 := by
    rw [a3.1 3 4 (by omega), ht1]
    rfl
  obtain ⟨t3, b1, b2, b3, b4⟩ := c_adv (N := N) (X := X) (i := 0) a2 (by rw [List.length_map]; omega) hpos (Or.inl (by rw [e34]; decide))
  have f0 : gL (fun k f => k = 3 ∧ (f = 3 ∨ f = 4 ∨ f = 5 ∨ f = 6)) aTk t t1 := by
    rw [ht1]
    refine ⟨fun k f r => ?_, fun _ _ _ => rfl, fun _ _ _ => ⟨rfl, rfl, rfl⟩, rfl, rfl, Nat.le_refl _, Nat.le_refl _, Nat.le_refl _⟩
    show (if k = 3 ∧ f = 4 then _ else if k = 3 ∧ f = 3 then _ else kI t k f) = _
    rw [if_neg (by omega), if_neg (by omega)]
  refine ⟨t3, ?_, b3, b2, gL.tr (t1 := t1) f0 (gL.tr (t1 := t2) (a3.mono (by omega) (by omega)) (b4.mono (by omega) (fun _ z => z.elim)))⟩
  have a1 : cf_40_L2 N X N 0 x1 (Int32.ofNat n) (Int32.ofNat 0) (Int32.ofNat 0) t1 = cf_40_55 N X t2 := a1
  have ln : (if Int32.ofNat (kA t 1).1 < Int32.ofNat n then Int32.ofNat (kA t 1).1 else Int32.ofNat n) = Int32.ofNat n := if_neg (fun q => by have := (i32lt (by omega) (by omega)).mp q; omega)
  unfold cf_40 cf_40_0
  rw [if_pos g1, ln]
  show cf_40_L2 N X N 0 x1 (Int32.ofNat n) (Int32.ofNat 0) (Int32.ofNat 0) (jI (jI t 3 3 (Int32.ofNat 0)) 3 4 (-Int32.ofNat 1)) = _
  rw [← ht1, a1]
  unfold cf_40_55 cf_40_59
  simp (disch := omega) only [ev_S, ev_C, ↓reduceIte, Nat.reduceEqDiff, Nat.reduceLeDiff, Nat.reduceAdd, Nat.reduceMul, Nat.reduceSub, reduceCtorEq, l32_0, l32_1, l32_2, l32_3, l32_4, l32_5, l32_6, l32_7, l32_8, l32_9, l32_10, b1]
end SCA
