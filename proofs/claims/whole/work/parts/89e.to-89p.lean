-- ### 89e.pure.lean.txt
section
/-! ===== PURE: all tokens of the text ===== -/
def tks (b : Nat → Nat) (n : Nat) : Nat → Nat → List Tk
  | 0, _ => []
  | f + 1, p => if (lex b n p).1 ≤ 1 then [lex b n p] else lex b n p :: tks b n f (lex b n p).2.2.2.2
theorem tks_len {b : Nat → Nat} {n : Nat} : ∀ (f p : Nat), (tks b n f p).length ≤ f
  | 0, _ => Nat.le_refl _
  | f + 1, p => by
    unfold tks
    split
    · exact Nat.succ_le_succ (Nat.zero_le _)
    · exact Nat.succ_le_succ (tks_len f _)
section SCA
variable {N : Nat} {X : Nat → Option zz_C} {b : Nat → Nat} {n x1 : Nat}
theorem c_scanL (hN : 170000 ≤ N) (hX : oX N X) : ∀ (f p i q : Nat) (t : cS) (L : List (Int32 × Int32 × Int64)), n - p < f → i ≤ p → p ≤ n → cTx t x1 b n → cT3 t L → L.length + f < 6500 → ∃ t', cf_40_L2 N X (q + (f + 1)) 0 x1 (Int32.ofNat n) (Int32.ofNat p) (Int32.ofNat i) t = cf_40_55 N X t' ∧ cT3 t' (L ++ (tks b n f p).map c3) ∧ gL eTk aTk t t' := by
  intro f
  induction f with
  | zero =>
    intro p i q t L hf
    exact absurd hf (Nat.not_lt_zero _)
  | succ f ih =>
    intro p i q t L hf hi hp h h3 hl
    have h4 := h.2.2.2.1
    have sk1 := c_skipBlanks (N := N) (X := X) hN h hp
    obtain ⟨k1, k2⟩ := sk_le (b := b) hp
    obtain ⟨t1, a1, a2, a3⟩ := c_scanOne (N := N) (X := X) hN hX h h3 (by omega) k2
    obtain ⟨l1, l2, l3, l4, l5⟩ := lex_e (b := b) hp
    have el : tkA b n (sk b n p) = lex b n p := rfl
    rw [el] at a1 a2
    have st : cf_40_L2 N X (q + (f + 1 + 1)) 0 x1 (Int32.ofNat n) (Int32.ofNat p) (Int32.ofNat i) t = cf_40_L2 N X (q + (f + 1)) 0 x1 (Int32.ofNat n) (nx (lex b n p)) (Int32.ofNat (i + 1)) t1 := by
      show cf_40_23 N X (cf_40_L2 N X (q + (f + 1))) x1 (Int32.ofNat n) (Int32.ofNat p) (Int32.ofNat i) t = _
      unfold cf_40_23 cf_40_29 cf_40_34 cf_40_44 cf_40_47
      simp (disch := omega) only [ev_S, ev_C, ↓reduceIte, Nat.reduceEqDiff, Nat.reduceLeDiff, Nat.reduceAdd, Nat.reduceMul, Nat.reduceSub, reduceCtorEq, l32_0, l32_1, l32_2, l32_3, l32_4, l32_5, l32_6, l32_7, l32_8, l32_9, l32_10, sk1, a1]
    rw [st]
    unfold tks
    by_cases c : (lex b n p).1 ≤ 1
    · rw [if_pos c]
      have en : nx (lex b n p) = -Int32.ofNat 1 := if_pos c
      refine ⟨t1, ?_, a2, a3⟩
      rw [en]
      show cf_40_23 N X (cf_40_L2 N X (q + f)) x1 (Int32.ofNat n) (-Int32.ofNat 1) (Int32.ofNat (i + 1)) t1 = _
      by_cases c2 : n < i + 1
      · unfold cf_40_23
        simp (disch := omega) only [ev_S, ev_C, ↓reduceIte, Nat.reduceEqDiff, Nat.reduceLeDiff, Nat.reduceAdd, Nat.reduceMul, Nat.reduceSub, reduceCtorEq, l32_0, l32_1, l32_2, l32_3, l32_4, l32_5, l32_6, l32_7, l32_8, l32_9, l32_10, a1]
      · unfold cf_40_23 cf_40_29
        simp (disch := omega) only [ev_S, ev_C, ↓reduceIte, Nat.reduceEqDiff, Nat.reduceLeDiff, Nat.reduceAdd, Nat.reduceMul, Nat.reduceSub, reduceCtorEq, l32_0, l32_1, l32_2, l32_3, l32_4, l32_5, l32_6, l32_7, l32_8, l32_9, l32_10, a1]
    · rw [if_neg c]
      have en : nx (lex b n p) = Int32.ofNat (lex b n p).2.2.2.2 := if_neg c
      have lp := l4 (by omega)
      obtain ⟨t', b1, b2, b3⟩ := ih (lex b n p).2.2.2.2 (i + 1) q t1 (L ++ [c3 (lex b n p)]) (by omega) (by omega) l3 (h.keep a3 (by omega)) a2 (by rw [List.length_append]; show L.length + 1 + f < _; omega)
      refine ⟨t', ?_, ?_, gL.tr (t1 := t1) a3 b3⟩
      · rw [en]
        exact b1
      · rw [List.map_cons]
        rw [List.append_assoc] at b2
        exact b2
/-- token i is the one that stands there now -/
def cNow (t : cS) (L : List (Int32 × Int32 × Int64)) (i : Nat) : Prop := kI t 3 4 = Int32.ofNat i ∧ ∃ hi : i < L.length, kI t 3 5 = L[i].1 ∧ kI t 3 6 = L[i].2.1 ∧ kL t 3 7 = L[i].2.2
abbrev eNow : Nat → Nat → Prop := fun k f => k = 3 ∧ (f = 4 ∨ f = 5 ∨ f = 6)
theorem c_adv {t : cS} {L : List (Int32 × Int32 × Int64)} {i : Nat} (h3 : cT3 t L) (hl : L.length < 6500) (hi : i < L.length) (h : kI t 3 4 + 1 = Int32.ofNat i ∨ (kI t 3 4 = Int32.ofNat i ∧ i + 1 = L.length)) : ∃ t', cf_46 N X t = some (t', .inl none) ∧ cNow t' L i ∧ cT3 t' L ∧ gL eNow (fun _ => False) t t' := by
  have h3' := h3
  obtain ⟨h1, h2, e5, e6, h5, h6, h7, h8⟩ := h3'
  obtain ⟨g4, g5, g6⟩ := h2 i hi
  have el : Int32.ofNat L.length - 1 = Int32.ofNat (L.length - 1) := by
    rw [l32_1, ev_sub (by omega)]
  have ei : (if kI t 3 3 - 1 < kI t 3 4 + 1 then kI t 3 3 - 1 else kI t 3 4 + 1) = Int32.ofNat i := by
    rw [h1, el]
    rcases h with h | ⟨h, h0⟩
    · rw [h, if_neg (fun q => by have := (i32lt (by omega) (by omega)).mp q; omega)]
    · rw [h, l32_1, i32add, if_pos ((i32lt (by omega) (by omega)).mpr (by omega)), show L.length - 1 = i by omega]
  refine ⟨jL (jI (jI (jI t 3 4 (Int32.ofNat i)) 3 5 (L[i]).1) 3 6 (L[i]).2.1) 3 7 (L[i]).2.2, ?_, ⟨rfl, hi, rfl, rfl, rfl⟩, ⟨h1, h2, e5, e6, h5, h6, h7, h8⟩, ⟨fun k f r => ?_, fun _ _ _ => rfl, fun _ _ _ => ⟨rfl, rfl, rfl⟩, rfl, rfl, Nat.le_refl _, Nat.le_refl _, Nat.le_refl _⟩⟩
  · unfold cf_46 cf_46_0
    rw [ei]
    unfold cf_46_26 cf_46_37 cf_46_76
    simp (disch := omega) only [ev_S, ev_C, ↓reduceIte, Nat.reduceEqDiff, Nat.reduceLeDiff, Nat.reduceAdd, Nat.reduceMul, Nat.reduceSub, reduceCtorEq, l32_0, l32_1, l32_2, l32_3, l32_4, l32_5, l32_6, l32_7, l32_8, l32_9, l32_10, h1, e5, e6, g4, g5, g6]
  · show (if k = 3 ∧ f = 6 then _ else if k = 3 ∧ f = 5 then _ else if k = 3 ∧ f = 4 then _ else kI t k f) = _
    rw [if_neg (by omega), if_neg (by omega), if_neg (by omega)]
/-- the whole text -/
theorem c_scan {t : cS} (hN : 170000 ≤ N) (hX : oX N X) (h : cTx t x1 b n) (h3 : ∃ L, cT3 t L) : ∃ t', cf_40 N X x1 (Int32.ofNat n) t = some (t', .inl none) ∧ cT3 t' ((tks b n (n + 1) 0).map c3) ∧ cNow t' ((tks b n (n + 1) 0).map c3) 0 ∧ gL (fun k f => k = 3 ∧ (f = 3 ∨ f = 4 ∨ f = 5 ∨ f = 6)) aTk t t' := by
  obtain ⟨L0, h1, h2, e5, e6, h5, h6, h7, h8⟩ := h3
  obtain ⟨g1, g2, g3, g4, g5, g6⟩ := h
  obtain ⟨t1, ht1⟩ : ∃ t1, t1 = jI (jI t 3 3 (Int32.ofNat 0)) 3 4 (-Int32.ofNat 1) := ⟨_, rfl⟩
  have x0 : cTx t1 x1 b n := by rw [ht1]; exact ⟨g1, g2, g3, g4, g5, g6⟩
  have y0 : cT3 t1 [] := by rw [ht1]; exact ⟨rfl, fun i hi => absurd hi (Nat.not_lt_zero _), e5, e6, Nat.zero_le _, h6, h7, h8⟩
  obtain ⟨t2, a1, a2, a3⟩ := c_scanL (N := N) (X := X) (b := b) (n := n) (x1 := x1) hN hX (n + 1) 0 0 (N - (n + 1 + 1)) t1 [] (by omega) (Nat.le_refl _) (Nat.zero_le _) x0 y0 (by show 0 + (n + 1) < _; omega)
  rw [show N - (n + 1 + 1) + (n + 1 + 1) = N by omega] at a1
  rw [List.nil_append] at a2
  have hlen := tks_len (b := b) (n := n) (n + 1) 0
  have hpos : 0 < ((tks b n (n + 1) 0).map c3).length := by
    rw [List.length_map]
    unfold tks
    split
    · exact Nat.succ_pos _
    · exact Nat.succ_pos _
  have e34 : kI t2 3 4 = -Int32.ofNat 1 := by
    rw [a3.1 3 4 (by omega), ht1]
    rfl
  obtain ⟨t3, b1, b2, b3, b4⟩ := c_adv (N := N) (X := X) (i := 0) a2 (by rw [List.length_map]; omega) hpos (Or.inl (by rw [e34]; decide))
  have f0 : gL (fun k f => k = 3 ∧ (f = 3 ∨ f = 4 ∨ f = 5 ∨ f = 6)) aTk t t1 := by
    rw [ht1]
    refine ⟨fun k f r => ?_, fun _ _ _ => rfl, fun _ _ _ => ⟨rfl, rfl, rfl⟩, rfl, rfl, Nat.le_refl _, Nat.le_refl _, Nat.le_refl _⟩
    show (if k = 3 ∧ f = 4 then _ else if k = 3 ∧ f = 3 then _ else kI t k f) = _
    rw [if_neg (by omega), if_neg (by omega)]
  refine ⟨t3, ?_, b3, b2, gL.tr (t1 := t1) f0 (gL.tr (t1 := t2) (a3.mono (by omega) (by omega)) (b4.mono (by omega) (fun _ z => z.elim)))⟩
  have a1 : cf_40_L2 N X N 0 x1 (Int32.ofNat n) (Int32.ofNat 0) (Int32.ofNat 0) t1 = cf_40_55 N X t2 := a1
  have ln : (if Int32.ofNat (kA t 1).1 < Int32.ofNat n then Int32.ofNat (kA t 1).1 else Int32.ofNat n) = Int32.ofNat n := if_neg (fun q => by have := (i32lt (by omega) (by omega)).mp q; omega)
  unfold cf_40 cf_40_0
  rw [if_pos g1, ln]
  show cf_40_L2 N X N 0 x1 (Int32.ofNat n) (Int32.ofNat 0) (Int32.ofNat 0) (jI (jI t 3 3 (Int32.ofNat 0)) 3 4 (-Int32.ofNat 1)) = _
  rw [← ht1, a1]
  unfold cf_40_55 cf_40_59
  simp (disch := omega) only [ev_S, ev_C, ↓reduceIte, Nat.reduceEqDiff, Nat.reduceLeDiff, Nat.reduceAdd, Nat.reduceMul, Nat.reduceSub, reduceCtorEq, l32_0, l32_1, l32_2, l32_3, l32_4, l32_5, l32_6, l32_7, l32_8, l32_9, l32_10, b1]
end SCA
end
-- ### 89f.pure.lean.txt
section
/-! ===== PURE: the reference looks at its token ===== -/
/-- the reference's words -/
def rWd (s : mS) : Prop := ∀ w, w < 41 → s.2.2.2 0 w = Int64.ofNat (evB 27 (wd w))
theorem evB_27 {l : List Nat} (h : okL l) (h8 : l.length ≤ 8) : evB 27 l < 1099511627776 := by
  have h1 := evB_lt (B := 27) (by decide) h
  have h2 : (27 : Nat) ^ l.length ≤ 27 ^ 8 := Nat.pow_le_pow_right (by decide) h8
  have e : (27 : Nat) ^ 8 = 282429536481 := by decide
  omega
/-- a token is as lex makes them -/
def okT (k : Tk) : Prop := k.1 = 0 ∨ k.1 = 1 ∨ (k.1 = 2 ∧ k.2.1 ≤ 2147483647) ∨ (k.1 = 3 ∧ okL k.2.2.1 ∧ k.2.2.1.length ≤ 8) ∨ (33 ≤ k.1 ∧ k.1 < 512)
theorem rTk.ok {s : mS} {k : Tk} (h : rTk s k) : okT k := by
  obtain ⟨-, -, h⟩ := h
  rcases h with ⟨h, -⟩ | ⟨h, -⟩ | ⟨h, -, -, h2⟩ | ⟨h, -, -, h2, h3⟩ | ⟨h, h2, -⟩
  · exact Or.inl h
  · exact Or.inr (Or.inl h)
  · exact Or.inr (Or.inr (Or.inl ⟨h, h2⟩))
  · exact Or.inr (Or.inr (Or.inr (Or.inl ⟨h, h3, h2⟩)))
  · exact Or.inr (Or.inr (Or.inr (Or.inr ⟨h, h2⟩)))
/-- the kind, as the class has it -/
def ck (k : Tk) : Nat := if k.1 = 3 then (if (wix k.2.2.1).isSome then 4 else 3) else k.1
/-- a fault is told -/
abbrev flt (s : mS) (x y : Int32) : mS := mI (mI s 9 x) 10 y
section RLK
variable {N : Nat} {s : mS} {k : Tk} {b : Nat → Nat} {n : Nat}
theorem sgv_lt (k : Nat) : sgv k < 260 := by
  unfold sgv
  split
  · omega
  · split
    · omega
    · split
      · omega
      · split <;> omega
theorem sgv_eq {k c : Nat} (hc : c < 256) : sgv k = c ↔ k = c := by
  unfold sgv
  split
  · exact Iff.rfl
  · refine ⟨fun h => ?_, fun h => by omega⟩
    split at h
    · omega
    · split at h
      · omega
      · split at h <;> omega
theorem r_isSign {c : Nat} (h : rTk s k) (h1 : 33 ≤ c) (h2 : c < 256) : mf_263 N (Int32.ofNat c) s = some (s, some (.int (if k.1 = c then 1 else 0))) := by
  obtain ⟨-, -, h⟩ := h
  rcases h with ⟨h, e5⟩ | ⟨h, e5⟩ | ⟨h, e5, -, -⟩ | ⟨h, e5, -, -, -⟩ | ⟨h, h3, e5, e7⟩
  · rw [if_neg (by omega)]
    repeat ((first | unfold mf_263 | unfold mf_263_0 | unfold mf_263_8 | unfold mf_263_18 | unfold mf_263_22 | unfold mf_263_23); try simp (disch := omega) only [ev_S, ev_P, ↓reduceIte, Nat.reduceEqDiff, Nat.reduceLeDiff, Nat.reduceAdd, Nat.reduceMul, Nat.reduceSub, reduceCtorEq, l32_0, l32_1, l32_2, l32_3, l32_4, l32_5, l32_7, e5])
  · rw [if_neg (by omega)]
    repeat ((first | unfold mf_263 | unfold mf_263_0 | unfold mf_263_8 | unfold mf_263_18 | unfold mf_263_22 | unfold mf_263_23); try simp (disch := omega) only [ev_S, ev_P, ↓reduceIte, Nat.reduceEqDiff, Nat.reduceLeDiff, Nat.reduceAdd, Nat.reduceMul, Nat.reduceSub, reduceCtorEq, l32_0, l32_1, l32_2, l32_3, l32_4, l32_5, l32_7, e5])
  · rw [if_neg (by omega)]
    repeat ((first | unfold mf_263 | unfold mf_263_0 | unfold mf_263_8 | unfold mf_263_18 | unfold mf_263_22 | unfold mf_263_23); try simp (disch := omega) only [ev_S, ev_P, ↓reduceIte, Nat.reduceEqDiff, Nat.reduceLeDiff, Nat.reduceAdd, Nat.reduceMul, Nat.reduceSub, reduceCtorEq, l32_0, l32_1, l32_2, l32_3, l32_4, l32_5, l32_7, e5])
  · rw [if_neg (by omega)]
    repeat ((first | unfold mf_263 | unfold mf_263_0 | unfold mf_263_8 | unfold mf_263_18 | unfold mf_263_22 | unfold mf_263_23); try simp (disch := omega) only [ev_S, ev_P, ↓reduceIte, Nat.reduceEqDiff, Nat.reduceLeDiff, Nat.reduceAdd, Nat.reduceMul, Nat.reduceSub, reduceCtorEq, l32_0, l32_1, l32_2, l32_3, l32_4, l32_5, l32_7, e5])
  · have hs := sgv_lt k.1
    by_cases e : k.1 = c
    · rw [if_pos e]
      have e1 := (sgv_eq h2).mpr e
      repeat ((first | unfold mf_263 | unfold mf_263_0 | unfold mf_263_8 | unfold mf_263_18 | unfold mf_263_22 | unfold mf_263_23); try simp (disch := omega) only [ev_S, ev_P, ↓reduceIte, Nat.reduceEqDiff, Nat.reduceLeDiff, Nat.reduceAdd, Nat.reduceMul, Nat.reduceSub, reduceCtorEq, l32_0, l32_1, l32_2, l32_3, l32_4, l32_5, l32_7, e5, e7, i64of32, lg_eq0, e1])
    · rw [if_neg e]
      have e1 : ¬ sgv k.1 = c := fun q => e ((sgv_eq h2).mp q)
      repeat ((first | unfold mf_263 | unfold mf_263_0 | unfold mf_263_8 | unfold mf_263_18 | unfold mf_263_22 | unfold mf_263_23); try simp (disch := omega) only [ev_S, ev_P, ↓reduceIte, Nat.reduceEqDiff, Nat.reduceLeDiff, Nat.reduceAdd, Nat.reduceMul, Nat.reduceSub, reduceCtorEq, l32_0, l32_1, l32_2, l32_3, l32_4, l32_5, l32_7, e5, e7, i64of32, lg_eq0, e1])
theorem r_wrong (h : rTk s k) (h0 : s.1 9 = 0) : mf_262 N s = some (flt s (if k.1 = 1 then 1 else 2) (Int32.ofNat k.2.2.2.1), none) := by
  obtain ⟨e6, -, h⟩ := h
  have e9 : ∀ x y : Int32, mf_261 N x y s = some (flt s x y, none) := fun x y => by
    unfold mf_261 mf_261_0
    rw [if_pos (by rw [h0]; decide)]
    rfl
  rcases h with ⟨h, e5⟩ | ⟨h, e5⟩ | ⟨h, e5, -, -⟩ | ⟨h, e5, -, -, -⟩ | ⟨h, h3, e5, e7⟩
  · rw [if_neg (by omega)]
    repeat ((first | unfold mf_262 | unfold mf_262_0 | unfold mf_262_9 | unfold mf_262_13 | unfold mf_262_14 | unfold mf_262_21); try simp (disch := omega) only [ev_S, ev_P, ↓reduceIte, Nat.reduceEqDiff, Nat.reduceLeDiff, Nat.reduceAdd, Nat.reduceMul, Nat.reduceSub, reduceCtorEq, l32_0, l32_1, l32_2, l32_3, l32_4, l32_5, l32_6, e5, e6, e9])
  · rw [if_pos h]
    repeat ((first | unfold mf_262 | unfold mf_262_0 | unfold mf_262_9 | unfold mf_262_13 | unfold mf_262_14 | unfold mf_262_21); try simp (disch := omega) only [ev_S, ev_P, ↓reduceIte, Nat.reduceEqDiff, Nat.reduceLeDiff, Nat.reduceAdd, Nat.reduceMul, Nat.reduceSub, reduceCtorEq, l32_0, l32_1, l32_2, l32_3, l32_4, l32_5, l32_6, e5, e6, e9])
  · rw [if_neg (by omega)]
    repeat ((first | unfold mf_262 | unfold mf_262_0 | unfold mf_262_9 | unfold mf_262_13 | unfold mf_262_14 | unfold mf_262_21); try simp (disch := omega) only [ev_S, ev_P, ↓reduceIte, Nat.reduceEqDiff, Nat.reduceLeDiff, Nat.reduceAdd, Nat.reduceMul, Nat.reduceSub, reduceCtorEq, l32_0, l32_1, l32_2, l32_3, l32_4, l32_5, l32_6, e5, e6, e9])
  · rw [if_neg (by omega)]
    repeat ((first | unfold mf_262 | unfold mf_262_0 | unfold mf_262_9 | unfold mf_262_13 | unfold mf_262_14 | unfold mf_262_21); try simp (disch := omega) only [ev_S, ev_P, ↓reduceIte, Nat.reduceEqDiff, Nat.reduceLeDiff, Nat.reduceAdd, Nat.reduceMul, Nat.reduceSub, reduceCtorEq, l32_0, l32_1, l32_2, l32_3, l32_4, l32_5, l32_6, e5, e6, e9])
  · rw [if_neg (by omega)]
    repeat ((first | unfold mf_262 | unfold mf_262_0 | unfold mf_262_9 | unfold mf_262_13 | unfold mf_262_14 | unfold mf_262_21); try simp (disch := omega) only [ev_S, ev_P, ↓reduceIte, Nat.reduceEqDiff, Nat.reduceLeDiff, Nat.reduceAdd, Nat.reduceMul, Nat.reduceSub, reduceCtorEq, l32_0, l32_1, l32_2, l32_3, l32_4, l32_5, l32_6, e5, e6, e9])
theorem r_breaks {x y : Int32} (h0 : s.1 9 = 0) : mf_261 N x y s = some (flt s x y, none) := by
  unfold mf_261 mf_261_0
  rw [if_pos (by rw [h0]; decide)]
  rfl
/-- which word the token is -/
theorem r_wordHere (hN : 170000 ≤ N) (hw : rWd s) (h : rTk s k) : mf_265 N s = some (s, some (.int (if k.1 = 3 then (match wix k.2.2.1 with
  | some i => Int32.ofNat i
  | none => -Int32.ofNat 1) else -Int32.ofNat 1))) := by
  obtain ⟨-, -, h⟩ := h
  rcases h with ⟨h, e5⟩ | ⟨h, e5⟩ | ⟨h, e5, -, -⟩ | ⟨h, e5, e7, h8, ho⟩ | ⟨h, h3, e5, e7⟩
  · rw [if_neg (by omega)]
    repeat ((first | unfold mf_265 | unfold mf_265_0 | unfold mf_265_8 | unfold mf_265_10 | unfold mf_265_12 | unfold mf_265_18 | unfold mf_265_32 | unfold mf_265_34 | unfold mf_265_40); try simp (disch := omega) only [ev_S, ev_P, ↓reduceIte, Nat.reduceEqDiff, Nat.reduceLeDiff, Nat.reduceAdd, Nat.reduceMul, Nat.reduceSub, reduceCtorEq, l32_0, l32_1, l32_2, l32_3, l32_4, l32_5, l32_7, l32_41, e5])
  · rw [if_neg (by omega)]
    repeat ((first | unfold mf_265 | unfold mf_265_0 | unfold mf_265_8 | unfold mf_265_10 | unfold mf_265_12 | unfold mf_265_18 | unfold mf_265_32 | unfold mf_265_34 | unfold mf_265_40); try simp (disch := omega) only [ev_S, ev_P, ↓reduceIte, Nat.reduceEqDiff, Nat.reduceLeDiff, Nat.reduceAdd, Nat.reduceMul, Nat.reduceSub, reduceCtorEq, l32_0, l32_1, l32_2, l32_3, l32_4, l32_5, l32_7, l32_41, e5])
  · rw [if_neg (by omega)]
    repeat ((first | unfold mf_265 | unfold mf_265_0 | unfold mf_265_8 | unfold mf_265_10 | unfold mf_265_12 | unfold mf_265_18 | unfold mf_265_32 | unfold mf_265_34 | unfold mf_265_40); try simp (disch := omega) only [ev_S, ev_P, ↓reduceIte, Nat.reduceEqDiff, Nat.reduceLeDiff, Nat.reduceAdd, Nat.reduceMul, Nat.reduceSub, reduceCtorEq, l32_0, l32_1, l32_2, l32_3, l32_4, l32_5, l32_7, l32_41, e5])
  · rw [if_pos h]
    have hv := evB_27 ho h8
    have st : mf_265 N s = mf_265_L2 N N 0 (Int32.ofNat 0) s := by
      unfold mf_265 mf_265_0 mf_265_10
      simp (disch := omega) only [ev_S, ev_P, ↓reduceIte, Nat.reduceEqDiff, Nat.reduceLeDiff, Nat.reduceAdd, Nat.reduceMul, Nat.reduceSub, reduceCtorEq, l32_0, l32_1, l32_2, l32_3, l32_4, l32_5, l32_6, l32_7, l32_8, l32_9, l32_10, e5]
    rw [st]
    generalize k.2.2.1 = ls at *
    have step : ∀ i q, i < 41 → ¬ wd i = ls → mf_265_L2 N (q + 1) 0 (Int32.ofNat i) s = mf_265_L2 N q 0 (Int32.ofNat (i + 1)) s := fun i q hi hne => by
      show mf_265_12 N (mf_265_L2 N q) (Int32.ofNat i) s = _
      have y2 := hw i hi
      obtain ⟨w1, w2⟩ := wd_ok i hi
      have hw := evB_27 w1 w2
      have hne2 : ¬ evB 27 (wd i) = evB 27 ls := fun e => hne (evB_inj (by decide) w1 ho e)
      unfold mf_265_12 mf_265_18 mf_265_34
      simp (disch := omega) only [ev_S, ev_P, ↓reduceIte, Nat.reduceEqDiff, Nat.reduceLeDiff, Nat.reduceAdd, Nat.reduceMul, Nat.reduceSub, reduceCtorEq, l32_0, l32_1, l32_2, l32_3, l32_4, l32_5, l32_6, l32_7, l32_8, l32_9, l32_10, y2, e7, lg_eq0, hne2, l32_41]
    cases hx : wix ls with
    | some i =>
      obtain ⟨hi, he⟩ := wix_some hx
      have go : ∀ d j q, j + d = i → mf_265_L2 N (q + (d + 1)) 0 (Int32.ofNat j) s = some (s, some (.int (Int32.ofNat i))) := by
        intro d
        induction d with
        | zero =>
          intro j q hj
          have hj : j = i := hj
          subst hj
          show mf_265_12 N (mf_265_L2 N q) (Int32.ofNat j) s = _
          have y2 := hw j hi
          rw [he] at y2
          unfold mf_265_12 mf_265_18 mf_265_32
          simp (disch := omega) only [ev_S, ev_P, ↓reduceIte, Nat.reduceEqDiff, Nat.reduceLeDiff, Nat.reduceAdd, Nat.reduceMul, Nat.reduceSub, reduceCtorEq, l32_0, l32_1, l32_2, l32_3, l32_4, l32_5, l32_6, l32_7, l32_8, l32_9, l32_10, y2, e7, lg_eq0, l32_41]
        | succ d ih =>
          intro j q hj
          rw [← Nat.add_assoc, step j _ (by omega) (fun e => by
            have := wd_inj j i (by omega) hi (e.trans he.symm)
            omega)]
          exact ih (j + 1) q (by omega)
      have e := go i 0 (N - (i + 1)) (Nat.zero_add _)
      rw [show N - (i + 1) + (i + 1) = N by omega] at e
      exact e
    | none =>
      have hn := wix_none hx
      have go : ∀ d j q, j + d = 41 → mf_265_L2 N (q + (d + 1)) 0 (Int32.ofNat j) s = some (s, some (.int (-Int32.ofNat 1))) := by
        intro d
        induction d with
        | zero =>
          intro j q hj
          have hj : j = 41 := hj
          subst hj
          show mf_265_12 N (mf_265_L2 N q) (Int32.ofNat 41) s = _
          unfold mf_265_12 mf_265_40
          simp (disch := omega) only [ev_S, ev_P, ↓reduceIte, Nat.reduceEqDiff, Nat.reduceLeDiff, Nat.reduceAdd, Nat.reduceMul, Nat.reduceSub, reduceCtorEq, l32_0, l32_1, l32_2, l32_3, l32_4, l32_5, l32_6, l32_7, l32_8, l32_9, l32_10, l32_41]
        | succ d ih =>
          intro j q hj
          rw [← Nat.add_assoc, step j _ (by omega) (hn j (by omega))]
          exact ih (j + 1) q (by omega)
      have e := go 41 0 (N - 42) rfl
      rw [show N - 42 + (41 + 1) = N by omega] at e
      exact e
  · rw [if_neg (by omega)]
    repeat ((first | unfold mf_265 | unfold mf_265_0 | unfold mf_265_8 | unfold mf_265_10 | unfold mf_265_12 | unfold mf_265_18 | unfold mf_265_32 | unfold mf_265_34 | unfold mf_265_40); try simp (disch := omega) only [ev_S, ev_P, ↓reduceIte, Nat.reduceEqDiff, Nat.reduceLeDiff, Nat.reduceAdd, Nat.reduceMul, Nat.reduceSub, reduceCtorEq, l32_0, l32_1, l32_2, l32_3, l32_4, l32_5, l32_7, l32_41, e5])
theorem ck_3 : ck k = 3 ↔ k.1 = 3 ∧ wix k.2.2.1 = none := by
  unfold ck
  by_cases h : k.1 = 3
  · rw [if_pos h]
    cases hw : wix k.2.2.1 with
    | some i => exact ⟨fun q => (by cases q), fun q => (by cases q.2)⟩
    | none => exact ⟨fun _ => ⟨h, rfl⟩, fun _ => rfl⟩
  · rw [if_neg h]
    exact ⟨fun q => absurd q h, fun q => absurd q.1 h⟩
theorem r_isName (hN : 170000 ≤ N) (hw : rWd s) (h : rTk s k) : mf_266 N s = some (s, some (.int (if ck k = 3 then 1 else 0))) := by
  have hh := r_wordHere (N := N) hN hw h
  have h5 := h.2.2
  have ih : (if ck k = 3 then (1 : Int32) else 0) = if k.1 = 3 ∧ wix k.2.2.1 = none then 1 else 0 := ite_c ck_3
  rw [ih]
  rcases h5 with ⟨h, e5⟩ | ⟨h, e5⟩ | ⟨h, e5, -, -⟩ | ⟨h, e5, e7, h8, ho⟩ | ⟨h, h3, e5, e7⟩
  · rw [if_neg (by omega)]
    repeat ((first | unfold mf_266 | unfold mf_266_0 | unfold mf_266_8 | unfold mf_266_12 | unfold mf_266_15 | unfold mf_266_19 | unfold mf_266_20); try simp (disch := omega) only [ev_S, ev_P, ↓reduceIte, Nat.reduceEqDiff, Nat.reduceLeDiff, Nat.reduceAdd, Nat.reduceMul, Nat.reduceSub, reduceCtorEq, l32_0, l32_1, l32_2, l32_3, l32_4, l32_5, e5])
  · rw [if_neg (by omega)]
    repeat ((first | unfold mf_266 | unfold mf_266_0 | unfold mf_266_8 | unfold mf_266_12 | unfold mf_266_15 | unfold mf_266_19 | unfold mf_266_20); try simp (disch := omega) only [ev_S, ev_P, ↓reduceIte, Nat.reduceEqDiff, Nat.reduceLeDiff, Nat.reduceAdd, Nat.reduceMul, Nat.reduceSub, reduceCtorEq, l32_0, l32_1, l32_2, l32_3, l32_4, l32_5, e5])
  · rw [if_neg (by omega)]
    repeat ((first | unfold mf_266 | unfold mf_266_0 | unfold mf_266_8 | unfold mf_266_12 | unfold mf_266_15 | unfold mf_266_19 | unfold mf_266_20); try simp (disch := omega) only [ev_S, ev_P, ↓reduceIte, Nat.reduceEqDiff, Nat.reduceLeDiff, Nat.reduceAdd, Nat.reduceMul, Nat.reduceSub, reduceCtorEq, l32_0, l32_1, l32_2, l32_3, l32_4, l32_5, e5])
  · rw [if_pos h] at hh
    cases hx : wix k.2.2.1 with
    | some i =>
      rw [hx] at hh
      have hi := (wix_some hx).1
      rw [if_neg (fun q => by cases q.2)]
      have hh : mf_265 N s = some (s, some (.int (Int32.ofNat i))) := hh
      repeat ((first | unfold mf_266 | unfold mf_266_0 | unfold mf_266_8 | unfold mf_266_12 | unfold mf_266_15 | unfold mf_266_19 | unfold mf_266_20); try simp (disch := omega) only [ev_S, ev_P, ↓reduceIte, Nat.reduceEqDiff, Nat.reduceLeDiff, Nat.reduceAdd, Nat.reduceMul, Nat.reduceSub, reduceCtorEq, l32_0, l32_1, l32_2, l32_3, l32_4, l32_5, e5, hh])
    | none =>
      rw [hx] at hh
      rw [if_pos ⟨h, rfl⟩]
      have hh : mf_265 N s = some (s, some (.int (-Int32.ofNat 1))) := hh
      repeat ((first | unfold mf_266 | unfold mf_266_0 | unfold mf_266_8 | unfold mf_266_12 | unfold mf_266_15 | unfold mf_266_19 | unfold mf_266_20); try simp (disch := omega) only [ev_S, ev_P, ↓reduceIte, Nat.reduceEqDiff, Nat.reduceLeDiff, Nat.reduceAdd, Nat.reduceMul, Nat.reduceSub, reduceCtorEq, l32_0, l32_1, l32_2, l32_3, l32_4, l32_5, e5, hh])
  · rw [if_neg (by omega)]
    repeat ((first | unfold mf_266 | unfold mf_266_0 | unfold mf_266_8 | unfold mf_266_12 | unfold mf_266_15 | unfold mf_266_19 | unfold mf_266_20); try simp (disch := omega) only [ev_S, ev_P, ↓reduceIte, Nat.reduceEqDiff, Nat.reduceLeDiff, Nat.reduceAdd, Nat.reduceMul, Nat.reduceSub, reduceCtorEq, l32_0, l32_1, l32_2, l32_3, l32_4, l32_5, e5])
theorem r_isWord {w : Nat} (hw : rWd s) (hw2 : w < 41) (h : rTk s k) : mf_264 N (Int32.ofNat w) s = some (s, some (.int (if k.1 = 3 ∧ k.2.2.1 = wd w then 1 else 0))) := by
  have y2 := hw w hw2
  obtain ⟨w1, w2⟩ := wd_ok w hw2
  have hv := evB_27 w1 w2
  rcases h.2.2 with ⟨h, e5⟩ | ⟨h, e5⟩ | ⟨h, e5, -, -⟩ | ⟨h, e5, e7, h8, ho⟩ | ⟨h, h3, e5, e7⟩
  · rw [if_neg (by omega)]
    repeat ((first | unfold mf_264 | unfold mf_264_0 | unfold mf_264_8 | unfold mf_264_22 | unfold mf_264_26 | unfold mf_264_27); try simp (disch := omega) only [ev_S, ev_P, ↓reduceIte, Nat.reduceEqDiff, Nat.reduceLeDiff, Nat.reduceAdd, Nat.reduceMul, Nat.reduceSub, reduceCtorEq, l32_0, l32_1, l32_2, l32_3, l32_4, l32_5, l32_7, l32_41, e5])
  · rw [if_neg (by omega)]
    repeat ((first | unfold mf_264 | unfold mf_264_0 | unfold mf_264_8 | unfold mf_264_22 | unfold mf_264_26 | unfold mf_264_27); try simp (disch := omega) only [ev_S, ev_P, ↓reduceIte, Nat.reduceEqDiff, Nat.reduceLeDiff, Nat.reduceAdd, Nat.reduceMul, Nat.reduceSub, reduceCtorEq, l32_0, l32_1, l32_2, l32_3, l32_4, l32_5, l32_7, l32_41, e5])
  · rw [if_neg (by omega)]
    repeat ((first | unfold mf_264 | unfold mf_264_0 | unfold mf_264_8 | unfold mf_264_22 | unfold mf_264_26 | unfold mf_264_27); try simp (disch := omega) only [ev_S, ev_P, ↓reduceIte, Nat.reduceEqDiff, Nat.reduceLeDiff, Nat.reduceAdd, Nat.reduceMul, Nat.reduceSub, reduceCtorEq, l32_0, l32_1, l32_2, l32_3, l32_4, l32_5, l32_7, l32_41, e5])
  · have hv2 := evB_27 ho h8
    by_cases c : k.2.2.1 = wd w
    · rw [if_pos ⟨h, c⟩]
      rw [c] at e7
      repeat ((first | unfold mf_264 | unfold mf_264_0 | unfold mf_264_8 | unfold mf_264_22 | unfold mf_264_26 | unfold mf_264_27); try simp (disch := omega) only [ev_S, ev_P, ↓reduceIte, Nat.reduceEqDiff, Nat.reduceLeDiff, Nat.reduceAdd, Nat.reduceMul, Nat.reduceSub, reduceCtorEq, l32_0, l32_1, l32_2, l32_3, l32_4, l32_5, l32_7, l32_41, e5, e7, y2, lg_eq0, l32_41])
    · rw [if_neg (fun q => c q.2)]
      have hne2 : ¬ evB 27 k.2.2.1 = evB 27 (wd w) := fun e => c (evB_inj (by decide) ho w1 e)
      repeat ((first | unfold mf_264 | unfold mf_264_0 | unfold mf_264_8 | unfold mf_264_22 | unfold mf_264_26 | unfold mf_264_27); try simp (disch := omega) only [ev_S, ev_P, ↓reduceIte, Nat.reduceEqDiff, Nat.reduceLeDiff, Nat.reduceAdd, Nat.reduceMul, Nat.reduceSub, reduceCtorEq, l32_0, l32_1, l32_2, l32_3, l32_4, l32_5, l32_7, l32_41, e5, e7, y2, lg_eq0, hne2, l32_41])
  · rw [if_neg (by omega)]
    repeat ((first | unfold mf_264 | unfold mf_264_0 | unfold mf_264_8 | unfold mf_264_22 | unfold mf_264_26 | unfold mf_264_27); try simp (disch := omega) only [ev_S, ev_P, ↓reduceIte, Nat.reduceEqDiff, Nat.reduceLeDiff, Nat.reduceAdd, Nat.reduceMul, Nat.reduceSub, reduceCtorEq, l32_0, l32_1, l32_2, l32_3, l32_4, l32_5, l32_7, l32_41, e5])
/-- ( behind the token -/
theorem r_behind (hN : 170000 ≤ N) (hx : rTx s b n) (h : rTk s k) (he : k.2.2.2.2 ≤ n) : mf_270 N s = some (s, some (.int (if (lex b n k.2.2.2.2).1 = 40 then 1 else 0))) := by
  have e8 := h.2.1
  have hb := r_begin (N := N) hN hx he
  obtain ⟨k1, k2⟩ := sk_le (b := b) he
  have hx' := hx
  obtain ⟨-, h4, h5, -⟩ := hx'
  have hy := r_byte (N := N) hx (a := sk b n k.2.2.2.2) (by omega)
  have key : (lex b n k.2.2.2.2).1 = 40 ↔ (if sk b n k.2.2.2.2 < n then b (sk b n k.2.2.2.2) else 0) = 40 := by
    unfold lex
    generalize sk b n k.2.2.2.2 = a at *
    unfold tkA
    by_cases c : a < n
    · rw [if_pos c, if_pos c]
      by_cases cl : 97 ≤ b a ∧ b a ≤ 122
      · rw [if_pos cl]
        unfold tkW
        split <;> exact ⟨fun q => (by cases q), fun q => by omega⟩
      · rw [if_neg cl]
        by_cases cd : 48 ≤ b a ∧ b a ≤ 57
        · rw [if_pos cd]
          unfold tkN
          split <;> exact ⟨fun q => (by cases q), fun q => by omega⟩
        · rw [if_neg cd]
          unfold tkS
          split
          · rename_i q
            have := eqB_iff.mp q.1
            unfold isEq at this
            exact ⟨fun z => by have z : b a + 256 = 40 := z; omega, fun z => by omega⟩
          · split
            · exact Iff.rfl
            · rename_i q
              exact ⟨fun z => (by cases z), fun z => absurd (sgB_iff.mpr (by rw [z]; unfold isSg; omega)) q⟩
    · rw [if_neg c, if_neg c]
  have hc : (if sk b n k.2.2.2.2 < n then b (sk b n k.2.2.2.2) else 0) < 256 := by
    split
    · exact h5 _
    · decide
  generalize (if sk b n k.2.2.2.2 < n then b (sk b n k.2.2.2.2) else 0) = c at *
  by_cases e : c = 40
  · rw [if_pos (key.mpr e)]
    repeat ((first | unfold mf_270 | unfold mf_270_0 | unfold mf_270_9 | unfold mf_270_12 | unfold mf_270_17 | unfold mf_270_21 | unfold mf_270_22); try simp (disch := omega) only [ev_S, ev_P, ↓reduceIte, Nat.reduceEqDiff, Nat.reduceLeDiff, Nat.reduceAdd, Nat.reduceMul, Nat.reduceSub, reduceCtorEq, l32_0, l32_1, l32_2, l32_3, l32_4, l32_8, l32_40, e8, hb, hy, e, l32_40])
  · rw [if_neg (fun q => e (key.mp q))]
    repeat ((first | unfold mf_270 | unfold mf_270_0 | unfold mf_270_9 | unfold mf_270_12 | unfold mf_270_17 | unfold mf_270_21 | unfold mf_270_22); try simp (disch := omega) only [ev_S, ev_P, ↓reduceIte, Nat.reduceEqDiff, Nat.reduceLeDiff, Nat.reduceAdd, Nat.reduceMul, Nat.reduceSub, reduceCtorEq, l32_0, l32_1, l32_2, l32_3, l32_4, l32_8, l32_40, e8, hb, hy, e, l32_40])
end RLK
end
-- ### 89g.pure.lean.txt
section
/-! ===== PURE: both sides pass a sign ===== -/
abbrev TL (b : Nat → Nat) (n : Nat) : List Tk := tks b n (n + 1) 0
theorem tks_ok {b : Nat → Nat} {n : Nat} : ∀ (f p : Nat), n - p < f → p ≤ n → ∀ i (hi : i < (tks b n f p).length), (tks b n f p)[i].2.2.2.2 ≤ n ∧ ((tks b n f p)[i].1 ≤ 1 ↔ i + 1 = (tks b n f p).length) ∧ ∀ h : i + 1 < (tks b n f p).length, (tks b n f p)[i + 1] = lex b n (tks b n f p)[i].2.2.2.2 := by
  intro f
  induction f with
  | zero =>
    intro p hp
    exact absurd hp (Nat.not_lt_zero _)
  | succ f ih =>
    intro p hf hp
    obtain ⟨l1, l2, l3, l4, l5⟩ := lex_e (b := b) hp
    by_cases c : (lex b n p).1 ≤ 1
    · have e : tks b n (f + 1) p = [lex b n p] := if_pos c
      rw [e]
      intro i hi
      have hi : i < 1 := hi
      have e0 : i = 0 := by omega
      subst e0
      exact ⟨l3, ⟨fun _ => rfl, fun _ => c⟩, fun h => absurd h (by show ¬ 0 + 1 < 1; omega)⟩
    · have e : tks b n (f + 1) p = lex b n p :: tks b n f (lex b n p).2.2.2.2 := if_neg c
      have lp := l4 (by omega)
      have ih := ih (lex b n p).2.2.2.2 (by omega) l3
      have hne : ∃ r, tks b n f (lex b n p).2.2.2.2 = lex b n (lex b n p).2.2.2.2 :: r := by
        obtain ⟨f', rfl⟩ : ∃ f', f = f' + 1 := ⟨f - 1, by omega⟩
        by_cases c2 : (lex b n (lex b n p).2.2.2.2).1 ≤ 1
        · exact ⟨[], if_pos c2⟩
        · exact ⟨_, if_neg c2⟩
      rw [e]
      intro i hi
      cases i with
      | zero =>
        obtain ⟨r, hr⟩ := hne
        refine ⟨l3, ⟨fun q => absurd q c, fun q => ?_⟩, fun h => ?_⟩
        · rw [hr] at q
          have q : 0 + 1 = r.length + 1 + 1 := q
          omega
        · have : (lex b n p :: tks b n f (lex b n p).2.2.2.2)[0 + 1]'h = (tks b n f (lex b n p).2.2.2.2)[0]'(by rw [hr]; exact Nat.succ_pos _) := rfl
          rw [this]
          simp only [hr, List.getElem_cons_zero]
      | succ i =>
        have hi : i < (tks b n f (lex b n p).2.2.2.2).length := Nat.lt_of_succ_lt_succ hi
        obtain ⟨q1, q2, q3⟩ := ih i hi
        refine ⟨q1, ⟨fun q => ?_, fun q => ?_⟩, fun h => q3 (Nat.lt_of_succ_lt_succ h)⟩
        · have := q2.mp q
          show i + 1 + 1 = (tks b n f (lex b n p).2.2.2.2).length + 1
          omega
        · refine q2.mpr ?_
          have q : i + 1 + 1 = (tks b n f (lex b n p).2.2.2.2).length + 1 := q
          omega
theorem TL_len {b : Nat → Nat} {n : Nat} : (TL b n).length ≤ n + 1 := tks_len (n + 1) 0
theorem TL_ok {b : Nat → Nat} {n i : Nat} (hi : i < (TL b n).length) : (TL b n)[i].2.2.2.2 ≤ n ∧ ((TL b n)[i].1 ≤ 1 ↔ i + 1 = (TL b n).length) ∧ ∀ h : i + 1 < (TL b n).length, (TL b n)[i + 1] = lex b n (TL b n)[i].2.2.2.2 := tks_ok (n + 1) 0 (by omega) (Nat.zero_le _) i hi
theorem TL_at {b : Nat → Nat} {n i : Nat} (hi : i < (TL b n).length) : (TL b n)[i].2.2.2.1 ≤ (TL b n)[i].2.2.2.2 := by
  have hp : ∀ (f p : Nat), p ≤ n → n - p < f → ∀ j (hj : j < (tks b n f p).length), (tks b n f p)[j].2.2.2.1 ≤ (tks b n f p)[j].2.2.2.2 := by
    intro f
    induction f with
    | zero =>
      intro p _ hp
      exact absurd hp (Nat.not_lt_zero _)
    | succ f ih =>
      intro p hp hf j hj
      obtain ⟨l1, l2, l3, l4, l5⟩ := lex_e (b := b) hp
      by_cases c : (lex b n p).1 ≤ 1
      · have e : tks b n (f + 1) p = [lex b n p] := if_pos c
        have hj1 : j < 1 := by rw [e] at hj; exact hj
        have e0 : j = 0 := by omega
        subst e0
        simp only [e, List.getElem_cons_zero]
        exact l2
      · have e : tks b n (f + 1) p = lex b n p :: tks b n f (lex b n p).2.2.2.2 := if_neg c
        have lp := l4 (by omega)
        simp only [e]
        cases j with
        | zero => exact l2
        | succ j => exact ih (lex b n p).2.2.2.2 l3 (by omega) j (by rw [e] at hj; exact Nat.lt_of_succ_lt_succ hj)
  exact hp (n + 1) 0 (Nat.zero_le _) (by omega) i hi
theorem c3_1 {k : Tk} : (c3 k).1 = Int32.ofNat (ck k) := by
  unfold c3 ck
  by_cases h : k.1 = 3
  · rw [if_pos h, if_pos h]
    cases wix k.2.2.1 <;> rfl
  · rw [if_neg h, if_neg h]
    split
    · rename_i q
      rw [q]
      rfl
    · rfl
theorem c3_2 {k : Tk} : (c3 k).2.1 = Int32.ofNat k.2.2.2.1 := by
  unfold c3
  by_cases h : k.1 = 3
  · rw [if_pos h]
    cases wix k.2.2.1 <;> rfl
  · rw [if_neg h]
    split <;> rfl
theorem ck_lt {k : Tk} (h : okT k) : ck k < 512 := by
  unfold ck
  split
  · split <;> omega
  · rcases h with h | h | ⟨h, -⟩ | ⟨h, -⟩ | ⟨-, h⟩ <;> omega
theorem ck_sg {k : Tk} {c : Nat} (hc : 5 ≤ c) : ck k = c ↔ k.1 = c := by
  unfold ck
  split
  · rename_i h
    split
    · exact ⟨fun q => by omega, fun q => by omega⟩
    · exact ⟨fun q => by omega, fun q => by omega⟩
  · exact Iff.rfl
theorem ck_1 {k : Tk} : ck k = 1 ↔ k.1 = 1 := by
  unfold ck
  split
  · rename_i h
    split
    · exact ⟨fun q => by omega, fun q => by omega⟩
    · exact ⟨fun q => by omega, fun q => by omega⟩
  · exact Iff.rfl
/-- as gL, where one exception has been made -/
def gX (E : Nat → Nat → Prop) (A : Nat → Prop) (t t' : cS) : Prop := (∀ k f, ¬ E k f → kI t' k f = kI t k f) ∧ (∀ k f, ¬ (k = 2 ∧ f = 1 ∧ E 2 1) → kP t' k f = kP t k f) ∧ (∀ k, ¬ A k → k ≠ 111 → kA t' k = kA t k ∧ kB t' k = kB t k ∧ kD t' k = kD t k) ∧ kM t' = kM t ∧ kH t' = kH t ∧ kN t ≤ kN t' ∧ kN t' + potL t ≤ kN t + potL t' + 1 ∧ kQ t' + poqL t ≤ kQ t + poqL t' + 6
theorem gX.pre {E : Nat → Nat → Prop} {A : Nat → Prop} {t t1 t2 : cS} (h : gL E A t t1) (g : gX E A t1 t2) : gX E A t t2 := by
  obtain ⟨a1, a2, a4, a5, a6, a8, a9, a10⟩ := h
  obtain ⟨b1, b2, b4, b5, b6, b8, b9, b10⟩ := g
  exact ⟨fun k f r => (b1 k f r).trans (a1 k f r), fun k f r => (b2 k f r).trans (a2 k f r), fun k r1 r3 => ⟨(b4 k r1 r3).1.trans (a4 k r1 r3).1, (b4 k r1 r3).2.1.trans (a4 k r1 r3).2.1, (b4 k r1 r3).2.2.trans (a4 k r1 r3).2.2⟩, b5.trans a5, b6.trans a6, by omega, by omega, by omega⟩
theorem gX.mono {E E' : Nat → Nat → Prop} {A A' : Nat → Prop} {t t' : cS} (h : gX E A t t') (hE : ∀ k f, E k f → E' k f) (hA : ∀ k, A k → A' k) : gX E' A' t t' := ⟨fun k f r => h.1 k f (fun z => r (hE k f z)), fun k f r => h.2.1 k f (fun z => r ⟨z.1, z.2.1, hE 2 1 z.2.2⟩), fun k r1 r2 => h.2.2.1 k (fun z => r1 (hA k z)) r2, h.2.2.2⟩
/-- both stand at token i, so many brackets open, no fault -/
def pR (b : Nat → Nat) (n i op : Nat) (t : cS) (s : mS) : Prop := cT3 t ((TL b n).map c3) ∧ cNow t ((TL b n).map c3) i ∧ (kI t 2 2 = Int32.ofNat op ∧ kI t 2 10 = Int32.ofNat 0 ∧ kI t 2 11 = -Int32.ofNat 1) ∧ op ≤ 10 ∧ n ≤ 1600 ∧ rTx s b n ∧ (∃ hi : i < (TL b n).length, rTk s (TL b n)[i]) ∧ rWd s ∧ s.1 11 = Int32.ofNat op ∧ s.1 9 = 0
/-- both have told this fault -/
def pF (t : cS) (s : mS) : Prop := ∃ x : Nat, ∃ y : Nat, 1 ≤ x ∧ x ≤ 6 ∧ y ≤ 1600 ∧ kI t 2 10 = Int32.ofNat x ∧ kI t 2 11 = Int32.ofNat y ∧ s.1 9 = Int32.ofNat x ∧ s.1 10 = Int32.ofNat y
abbrev eP : Nat → Nat → Prop := fun k f => (k = 3 ∧ (f = 4 ∨ f = 5 ∨ f = 6)) ∨ (k = 2 ∧ (f = 2 ∨ f = 10 ∨ f = 11))
abbrev a0 : Nat → Prop := fun _ => False
abbrev fPs (s s' : mS) : Prop := mfr (fun q => q = 5 ∨ q = 6 ∨ q = 8 ∨ q = 9 ∨ q = 10 ∨ q = 11) (fun q => q = 7) (fun _ => False) (fun _ => False) s s'
section PAS
variable {N : Nat} {X : Nat → Option zz_C} {t : cS} {s : mS} {b : Nat → Nat} {n i op : Nat}
theorem pR.now (h : pR b n i op t s) : ∃ hi : i < (TL b n).length, kI t 3 5 = Int32.ofNat (ck (TL b n)[i]) ∧ kI t 3 6 = Int32.ofNat (TL b n)[i].2.2.2.1 ∧ kL t 3 7 = (c3 (TL b n)[i]).2.2 ∧ rTk s (TL b n)[i] ∧ okT (TL b n)[i] ∧ (TL b n)[i].2.2.2.2 ≤ n ∧ ck (TL b n)[i] < 512 ∧ (TL b n).length ≤ 1601 := by
  obtain ⟨h1, ⟨e4, hl, e5, e6, e7⟩, h3, h4, h5, h6, ⟨hi, h7⟩, h8, h9, h10⟩ := h
  rw [List.getElem_map] at e5 e6 e7
  have := TL_len (b := b) (n := n)
  refine ⟨hi, e5.trans c3_1, e6.trans c3_2, e7, h7, h7.ok, (TL_ok hi).1, ck_lt h7.ok, by omega⟩
theorem c_fail {x : Nat} (h : pR b n i op t s) (hx : 1 ≤ x ∧ x ≤ 6) : ∃ t', cf_202 N X 0 (Int32.ofNat x) t = some (t', .inr ()) ∧ gX eP a0 t t' ∧ ∃ hi : i < (TL b n).length, kI t' 2 10 = Int32.ofNat (if (TL b n)[i].1 = 1 then 1 else x) ∧ kI t' 2 11 = Int32.ofNat (TL b n)[i].2.2.2.1 := by
  obtain ⟨hi, e5, e6, e7, hk, ho, he, hlt, hll⟩ := h.now
  have hr := h.1.2.2.2.2.2.2.2.k
  have key : ∀ y : Nat, y = (if (TL b n)[i].1 = 1 then 1 else x) → cf_202 N X 0 (Int32.ofNat x) t = some (jX (jI (jI t 2 10 (Int32.ofNat y)) 2 11 (Int32.ofNat (TL b n)[i].2.2.2.1)) 6, .inr ()) := fun y ey => by
    by_cases c : (TL b n)[i].1 = 1
    · rw [if_pos c] at ey
      subst ey
      have c1 := ck_1.mpr c
      have e42 : cf_42 N X t = some (t, .inl (some (.int (Int32.ofNat 1)))) := by
        rw [← c1]
        repeat ((first | unfold cf_42 | unfold cf_42_0); try simp (disch := omega) only [ev_S, ev_C, ↓reduceIte, Nat.reduceEqDiff, Nat.reduceLeDiff, Nat.reduceAdd, Nat.reduceMul, Nat.reduceSub, reduceCtorEq, l32_0, l32_1, l32_2, l32_3, l32_4, l32_5, e5])
      have e243 : cf_243 N X (jI t 2 10 (Int32.ofNat 1)) = some (jI t 2 10 (Int32.ofNat 1), .inl (some (.int (Int32.ofNat (TL b n)[i].2.2.2.1)))) := by
        repeat ((first | unfold cf_243 | unfold cf_243_0); try simp (disch := omega) only [ev_S, ev_C, ↓reduceIte, Nat.reduceEqDiff, Nat.reduceLeDiff, Nat.reduceAdd, Nat.reduceMul, Nat.reduceSub, reduceCtorEq, l32_0, l32_1, l32_2, l32_3, l32_4, l32_6, e6])
      unfold cf_202 cf_202_0 cf_202_4 cf_202_12 cf_202_16 cf_202_21 cf_202_32
      simp (disch := omega) only [ev_S, ev_C, ↓reduceIte, Nat.reduceEqDiff, l32_0, l32_1, e42, e243]
    · rw [if_neg c] at ey
      subst ey
      have c1 : ¬ ck (TL b n)[i] = 1 := fun q => c (ck_1.mp q)
      have e42 : cf_42 N X t = some (t, .inl (some (.int (Int32.ofNat (ck (TL b n)[i]))))) := by
        repeat ((first | unfold cf_42 | unfold cf_42_0); try simp (disch := omega) only [ev_S, ev_C, ↓reduceIte, Nat.reduceEqDiff, Nat.reduceLeDiff, Nat.reduceAdd, Nat.reduceMul, Nat.reduceSub, reduceCtorEq, l32_0, l32_1, l32_2, l32_3, l32_4, l32_5, e5])
      have e243 : cf_243 N X (jI t 2 10 (Int32.ofNat y)) = some (jI t 2 10 (Int32.ofNat y), .inl (some (.int (Int32.ofNat (TL b n)[i].2.2.2.1)))) := by
        repeat ((first | unfold cf_243 | unfold cf_243_0); try simp (disch := omega) only [ev_S, ev_C, ↓reduceIte, Nat.reduceEqDiff, Nat.reduceLeDiff, Nat.reduceAdd, Nat.reduceMul, Nat.reduceSub, reduceCtorEq, l32_0, l32_1, l32_2, l32_3, l32_4, l32_6, e6])
      unfold cf_202 cf_202_0 cf_202_4 cf_202_12 cf_202_20 cf_202_21 cf_202_32
      simp (disch := omega) only [ev_S, ev_C, ↓reduceIte, Nat.reduceEqDiff, l32_0, l32_1, e42, e243, c1]
  refine ⟨_, key _ rfl, ⟨fun k f r => ?_, fun _ _ _ => rfl, fun _ _ _ => ⟨rfl, rfl, rfl⟩, rfl, rfl, ?_, ?_, ?_⟩, hi, rfl, rfl⟩
  · show (if k = 2 ∧ f = 11 then _ else if k = 2 ∧ f = 10 then _ else kI t k f) = _
    rw [if_neg (by omega), if_neg (by omega)]
  · show kN t ≤ kN t + 1
    omega
  · show kN t + 1 + potL t ≤ kN t + potL t + 1
    omega
  · show kQ t + 6 + poqL t ≤ kQ t + poqL t + 6
    omega
theorem c_fine {x : Int32} : cf_202 N X (Int32.ofNat 1) x t = some (t, .inl none) := by
  unfold cf_202 cf_202_0 cf_202_46
  simp (disch := omega) only [ev_S, ev_C, ↓reduceIte, Nat.reduceEqDiff, l32_0, l32_1]
/-- one token on, on both sides -/
theorem p_adv (hN : 170000 ≤ N) (h : pR b n i op t s) (h2 : ∀ hi : i < (TL b n).length, 2 ≤ (TL b n)[i].1) : ∃ t' s', cf_46 N X t = some (t', .inl none) ∧ mf_260 N s = some (s', none) ∧ pR b n (i + 1) op t' s' ∧ gL eP a0 t t' ∧ fPs s s' := by
  have hn := h.now
  obtain ⟨hi, e5, e6, e7, hk, ho, he, hlt, hll⟩ := hn
  obtain ⟨h1, ⟨e4, hl, f5, f6, f7⟩, h3, h4, h5, h6, -, h8, h9, h10⟩ := h
  obtain ⟨q1, q2, q3⟩ := TL_ok hi
  have hge := h2 hi
  have hi1 : i + 1 < (TL b n).length := by
    by_cases c : i + 1 = (TL b n).length
    · have := q2.mpr c
      omega
    · omega
  obtain ⟨t', a1, a2, a3, a4⟩ := c_adv (N := N) (X := X) (i := i + 1) h1 (by rw [List.length_map]; omega) (by rw [List.length_map]; exact hi1) (Or.inl (by rw [e4, l32_1, i32add]))
  obtain ⟨s', b1, b2, b3⟩ := r_take (N := N) hN h6 hk he
  refine ⟨t', s', a1, b1, ⟨a3, a2, ⟨by rw [a4.1 2 2 (by omega)]; exact h3.1, by rw [a4.1 2 10 (by omega)]; exact h3.2.1, by rw [a4.1 2 11 (by omega)]; exact h3.2.2⟩, h4, h5, h6.keep b3, ⟨hi1, ?_⟩, ?_, ?_, ?_⟩, a4.mono (by omega) (fun _ z => z), ⟨fun q r => b3.1 q (by omega), fun q r => b3.2.1 q r, b3.2.2.1, b3.2.2.2⟩⟩
  · have e : (TL b n)[i + 1] = lex b n (TL b n)[i].2.2.2.2 := q3 hi1
    rw [e]
    exact b2
  · intro w hw
    rw [b3.2.2.2 0 (fun z => z)]
    exact h8 w hw
  · rw [b3.1 11 (by omega)]
    exact h9
  · rw [b3.1 9 (by omega)]
    exact h10
/-- wrong() and failUnless(false, CANNOT_COME) -/
theorem p_wrong (h : pR b n i op t s) : ∃ t' s', cf_202 N X 0 2 t = some (t', .inr ()) ∧ mf_262 N s = some (s', none) ∧ pF t' s' ∧ gX eP a0 t t' ∧ fPs s s' := by
  obtain ⟨hi, e5, e6, e7, hk, ho, he, hlt, hll⟩ := h.now
  obtain ⟨t', a1, a2, hi', a3, a4⟩ := c_fail (N := N) (X := X) (x := 2) h (by omega)
  have w := r_wrong (N := N) hk h.2.2.2.2.2.2.2.2.2
  have l1 : (TL b n)[i].2.2.2.1 ≤ 1600 := by
    have h6 := h.2.2.2.2.1
    have := TL_at hi
    omega
  refine ⟨t', _, a1, w, ⟨if (TL b n)[i].1 = 1 then 1 else 2, (TL b n)[i].2.2.2.1, ?_, ?_, l1, a3, a4, ?_, rfl⟩, a2, ⟨fun q r => ?_, fun _ _ => rfl, fun _ _ => rfl, fun _ _ => rfl⟩⟩
  · split <;> omega
  · split <;> omega
  · show (if (TL b n)[i].1 = 1 then (1 : Int32) else 2) = _
    split <;> rfl
  · show (if q = 10 then _ else if q = 9 then _ else s.1 q) = _
    rw [if_neg (by omega), if_neg (by omega)]
end PAS
end
-- ### 89h.pure.lean.txt
section
/-! ===== PURE: both sides pass signs and words (2) ===== -/
section PAT
variable {N : Nat} {X : Nat → Option zz_C} {t : cS} {s : mS} {b : Nat → Nat} {n i op : Nat}
theorem pR.oI {x : Nat} (h : pR b n i op t s) (hx : x ≤ 10) : pR b n i x (jI t 2 2 (Int32.ofNat x)) (mI s 11 (Int32.ofNat x)) := by
  obtain ⟨h1, h2, h3, h4, h5, h6, h7, h8, h9, h10⟩ := h
  exact ⟨h1, h2, ⟨rfl, h3.2.1, h3.2.2⟩, hx, h5, h6, h7, h8, rfl, h10⟩
theorem gL_oI {x : Int32} : gL eP a0 t (jI t 2 2 x) := ⟨fun k f r => if_neg (by omega), fun _ _ _ => rfl, fun _ _ _ => ⟨rfl, rfl, rfl⟩, rfl, rfl, Nat.le_refl _, Nat.le_refl _, Nat.le_refl _⟩
theorem fPs_oI {x : Int32} : fPs s (mI s 11 x) := ⟨fun q r => if_neg (by omega), fun _ _ => rfl, fun _ _ => rfl, fun _ _ => rfl⟩
/-- a sign that opens nothing -/
theorem p_sign {c : Nat} (hN : 170000 ≤ N) (h : pR b n i op t s) (hc : c = 41 ∨ c = 93 ∨ c = 125 ∨ c = 59 ∨ c = 44 ∨ c = 61) (ho1 : c = 41 ∨ c = 93 ∨ c = 125 → 1 ≤ op) : (∃ t' s', cf_201 N X (Int32.ofNat c) t = some (t', .inl none) ∧ mf_267 N (Int32.ofNat c) s = some (s', none) ∧ (∃ hi : i < (TL b n).length, (TL b n)[i].1 = c) ∧ pR b n (i + 1) (if c = 41 ∨ c = 93 ∨ c = 125 then op - 1 else op) t' s' ∧ gL eP a0 t t' ∧ fPs s s') ∨ (∃ t' s', cf_201 N X (Int32.ofNat c) t = some (t', .inr ()) ∧ mf_267 N (Int32.ofNat c) s = some (s', none) ∧ pF t' s' ∧ gX eP a0 t t' ∧ fPs s s') := by
  obtain ⟨hi, e5, e6, e7, hk, ho, he, hlt, hll⟩ := h.now
  have h9 : s.1 9 = Int32.ofNat 0 := h.2.2.2.2.2.2.2.2.2
  have h2 := h.2.2.1.1
  have h11 := h.2.2.2.2.2.2.2.2.1
  have h10 := h.2.2.2.1
  have e42 : cf_42 N X t = some (t, .inl (some (.int (Int32.ofNat (ck (TL b n)[i]))))) := by
    repeat ((first | unfold cf_42 | unfold cf_42_0); try simp (disch := omega) only [ev_S, ev_C, ↓reduceIte, Nat.reduceEqDiff, Nat.reduceLeDiff, Nat.reduceAdd, Nat.reduceMul, Nat.reduceSub, reduceCtorEq, l32_0, l32_1, l32_2, l32_3, l32_4, l32_5, e5])
  have is := r_isSign (N := N) (c := c) hk (by omega) (by omega)
  by_cases e : (TL b n)[i].1 = c
  · left
    rw [if_pos e] at is
    have ec := (ck_sg (k := (TL b n)[i]) (c := c) (by omega)).mpr e
    rw [ec] at e42
    by_cases cl : c = 41 ∨ c = 93 ∨ c = 125
    · rw [if_pos cl]
      have h1 := ho1 cl
      obtain ⟨t', s', a1, a2, a3, a4, a5⟩ := p_adv (N := N) (X := X) hN (h.oI (x := op - 1) (by omega)) (fun _ => by show 2 ≤ (TL b n)[i].1; omega)
      refine ⟨t', s', ?_, ?_, ⟨hi, e⟩, a3, gL.tr (t1 := jI t 2 2 (Int32.ofNat (op - 1))) gL_oI a4, mfr.tr (s1 := mI s 11 (Int32.ofNat (op - 1))) fPs_oI a5⟩
      · rcases cl with rfl | rfl | rfl
        · repeat ((first | unfold cf_201 | unfold cf_201_0 | unfold cf_201_8 | unfold cf_201_12 | unfold cf_201_16 | unfold cf_201_17 | unfold cf_201_21 | unfold cf_201_27 | unfold cf_201_33 | unfold cf_201_39 | unfold cf_201_49 | unfold cf_201_53 | unfold cf_201_54 | unfold cf_201_58 | unfold cf_201_71 | unfold cf_201_77 | unfold cf_201_83 | unfold cf_201_89 | unfold cf_201_99 | unfold cf_201_106); try simp (disch := omega) only [ev_S, ev_C, ↓reduceIte, Nat.reduceEqDiff, Nat.reduceLeDiff, Nat.reduceAdd, Nat.reduceMul, Nat.reduceSub, reduceCtorEq, l32_0, l32_1, l32_2, l32_3, l32_4, l32_5, l32_10, l32_40, l32_41, l32_91, l32_93, l32_123, l32_125, e42, c_fine, h2, a1])
        · repeat ((first | unfold cf_201 | unfold cf_201_0 | unfold cf_201_8 | unfold cf_201_12 | unfold cf_201_16 | unfold cf_201_17 | unfold cf_201_21 | unfold cf_201_27 | unfold cf_201_33 | unfold cf_201_39 | unfold cf_201_49 | unfold cf_201_53 | unfold cf_201_54 | unfold cf_201_58 | unfold cf_201_71 | unfold cf_201_77 | unfold cf_201_83 | unfold cf_201_89 | unfold cf_201_99 | unfold cf_201_106); try simp (disch := omega) only [ev_S, ev_C, ↓reduceIte, Nat.reduceEqDiff, Nat.reduceLeDiff, Nat.reduceAdd, Nat.reduceMul, Nat.reduceSub, reduceCtorEq, l32_0, l32_1, l32_2, l32_3, l32_4, l32_5, l32_10, l32_40, l32_41, l32_91, l32_93, l32_123, l32_125, e42, c_fine, h2, a1])
        · repeat ((first | unfold cf_201 | unfold cf_201_0 | unfold cf_201_8 | unfold cf_201_12 | unfold cf_201_16 | unfold cf_201_17 | unfold cf_201_21 | unfold cf_201_27 | unfold cf_201_33 | unfold cf_201_39 | unfold cf_201_49 | unfold cf_201_53 | unfold cf_201_54 | unfold cf_201_58 | unfold cf_201_71 | unfold cf_201_77 | unfold cf_201_83 | unfold cf_201_89 | unfold cf_201_99 | unfold cf_201_106); try simp (disch := omega) only [ev_S, ev_C, ↓reduceIte, Nat.reduceEqDiff, Nat.reduceLeDiff, Nat.reduceAdd, Nat.reduceMul, Nat.reduceSub, reduceCtorEq, l32_0, l32_1, l32_2, l32_3, l32_4, l32_5, l32_10, l32_40, l32_41, l32_91, l32_93, l32_123, l32_125, e42, c_fine, h2, a1, l32_125, l32_123])
      · rcases cl with rfl | rfl | rfl
        · repeat ((first | unfold mf_267 | unfold mf_267_0 | unfold mf_267_7 | unfold mf_267_8 | unfold mf_267_13 | unfold mf_267_16 | unfold mf_267_22 | unfold mf_267_28 | unfold mf_267_34 | unfold mf_267_44 | unfold mf_267_48 | unfold mf_267_51 | unfold mf_267_55); try simp (disch := omega) only [ev_S, ev_P, ↓reduceIte, Nat.reduceEqDiff, Nat.reduceLeDiff, Nat.reduceAdd, Nat.reduceMul, Nat.reduceSub, reduceCtorEq, l32_0, l32_1, l32_2, l32_3, l32_4, l32_9, l32_11, l32_41, l32_93, l32_125, h9, is, h11, a2])
        · repeat ((first | unfold mf_267 | unfold mf_267_0 | unfold mf_267_7 | unfold mf_267_8 | unfold mf_267_13 | unfold mf_267_16 | unfold mf_267_22 | unfold mf_267_28 | unfold mf_267_34 | unfold mf_267_44 | unfold mf_267_48 | unfold mf_267_51 | unfold mf_267_55); try simp (disch := omega) only [ev_S, ev_P, ↓reduceIte, Nat.reduceEqDiff, Nat.reduceLeDiff, Nat.reduceAdd, Nat.reduceMul, Nat.reduceSub, reduceCtorEq, l32_0, l32_1, l32_2, l32_3, l32_4, l32_9, l32_11, l32_41, l32_93, l32_125, h9, is, h11, a2])
        · repeat ((first | unfold mf_267 | unfold mf_267_0 | unfold mf_267_7 | unfold mf_267_8 | unfold mf_267_13 | unfold mf_267_16 | unfold mf_267_22 | unfold mf_267_28 | unfold mf_267_34 | unfold mf_267_44 | unfold mf_267_48 | unfold mf_267_51 | unfold mf_267_55); try simp (disch := omega) only [ev_S, ev_P, ↓reduceIte, Nat.reduceEqDiff, Nat.reduceLeDiff, Nat.reduceAdd, Nat.reduceMul, Nat.reduceSub, reduceCtorEq, l32_0, l32_1, l32_2, l32_3, l32_4, l32_9, l32_11, l32_41, l32_93, l32_125, h9, is, h11, a2, l32_125])
    · rw [if_neg cl]
      obtain ⟨t', s', a1, a2, a3, a4, a5⟩ := p_adv (N := N) (X := X) hN h (fun _ => by show 2 ≤ (TL b n)[i].1; omega)
      refine ⟨t', s', ?_, ?_, ⟨hi, e⟩, a3, a4, a5⟩
      · rcases hc with rfl | rfl | rfl | rfl | rfl | rfl
        · exact absurd (Or.inl rfl) cl
        · exact absurd (Or.inr (Or.inl rfl)) cl
        · exact absurd (Or.inr (Or.inr rfl)) cl
        · repeat ((first | unfold cf_201 | unfold cf_201_0 | unfold cf_201_8 | unfold cf_201_12 | unfold cf_201_16 | unfold cf_201_17 | unfold cf_201_21 | unfold cf_201_27 | unfold cf_201_33 | unfold cf_201_39 | unfold cf_201_49 | unfold cf_201_53 | unfold cf_201_54 | unfold cf_201_58 | unfold cf_201_71 | unfold cf_201_77 | unfold cf_201_83 | unfold cf_201_89 | unfold cf_201_99 | unfold cf_201_106); try simp (disch := omega) only [ev_S, ev_C, ↓reduceIte, Nat.reduceEqDiff, Nat.reduceLeDiff, Nat.reduceAdd, Nat.reduceMul, Nat.reduceSub, reduceCtorEq, l32_0, l32_1, l32_2, l32_3, l32_4, l32_5, l32_10, l32_40, l32_41, l32_91, l32_93, l32_123, l32_125, e42, c_fine, h2, a1])
        · repeat ((first | unfold cf_201 | unfold cf_201_0 | unfold cf_201_8 | unfold cf_201_12 | unfold cf_201_16 | unfold cf_201_17 | unfold cf_201_21 | unfold cf_201_27 | unfold cf_201_33 | unfold cf_201_39 | unfold cf_201_49 | unfold cf_201_53 | unfold cf_201_54 | unfold cf_201_58 | unfold cf_201_71 | unfold cf_201_77 | unfold cf_201_83 | unfold cf_201_89 | unfold cf_201_99 | unfold cf_201_106); try simp (disch := omega) only [ev_S, ev_C, ↓reduceIte, Nat.reduceEqDiff, Nat.reduceLeDiff, Nat.reduceAdd, Nat.reduceMul, Nat.reduceSub, reduceCtorEq, l32_0, l32_1, l32_2, l32_3, l32_4, l32_5, l32_10, l32_40, l32_41, l32_91, l32_93, l32_123, l32_125, e42, c_fine, h2, a1])
        · repeat ((first | unfold cf_201 | unfold cf_201_0 | unfold cf_201_8 | unfold cf_201_12 | unfold cf_201_16 | unfold cf_201_17 | unfold cf_201_21 | unfold cf_201_27 | unfold cf_201_33 | unfold cf_201_39 | unfold cf_201_49 | unfold cf_201_53 | unfold cf_201_54 | unfold cf_201_58 | unfold cf_201_71 | unfold cf_201_77 | unfold cf_201_83 | unfold cf_201_89 | unfold cf_201_99 | unfold cf_201_106); try simp (disch := omega) only [ev_S, ev_C, ↓reduceIte, Nat.reduceEqDiff, Nat.reduceLeDiff, Nat.reduceAdd, Nat.reduceMul, Nat.reduceSub, reduceCtorEq, l32_0, l32_1, l32_2, l32_3, l32_4, l32_5, l32_10, l32_40, l32_41, l32_91, l32_93, l32_123, l32_125, e42, c_fine, h2, a1])
      · rcases hc with rfl | rfl | rfl | rfl | rfl | rfl
        · exact absurd (Or.inl rfl) cl
        · exact absurd (Or.inr (Or.inl rfl)) cl
        · exact absurd (Or.inr (Or.inr rfl)) cl
        · repeat ((first | unfold mf_267 | unfold mf_267_0 | unfold mf_267_7 | unfold mf_267_8 | unfold mf_267_13 | unfold mf_267_16 | unfold mf_267_22 | unfold mf_267_28 | unfold mf_267_34 | unfold mf_267_44 | unfold mf_267_48 | unfold mf_267_51 | unfold mf_267_55); try simp (disch := omega) only [ev_S, ev_P, ↓reduceIte, Nat.reduceEqDiff, Nat.reduceLeDiff, Nat.reduceAdd, Nat.reduceMul, Nat.reduceSub, reduceCtorEq, l32_0, l32_1, l32_2, l32_3, l32_4, l32_9, l32_11, l32_41, l32_93, l32_125, h9, is, h11, a2])
        · repeat ((first | unfold mf_267 | unfold mf_267_0 | unfold mf_267_7 | unfold mf_267_8 | unfold mf_267_13 | unfold mf_267_16 | unfold mf_267_22 | unfold mf_267_28 | unfold mf_267_34 | unfold mf_267_44 | unfold mf_267_48 | unfold mf_267_51 | unfold mf_267_55); try simp (disch := omega) only [ev_S, ev_P, ↓reduceIte, Nat.reduceEqDiff, Nat.reduceLeDiff, Nat.reduceAdd, Nat.reduceMul, Nat.reduceSub, reduceCtorEq, l32_0, l32_1, l32_2, l32_3, l32_4, l32_9, l32_11, l32_41, l32_93, l32_125, h9, is, h11, a2])
        · repeat ((first | unfold mf_267 | unfold mf_267_0 | unfold mf_267_7 | unfold mf_267_8 | unfold mf_267_13 | unfold mf_267_16 | unfold mf_267_22 | unfold mf_267_28 | unfold mf_267_34 | unfold mf_267_44 | unfold mf_267_48 | unfold mf_267_51 | unfold mf_267_55); try simp (disch := omega) only [ev_S, ev_P, ↓reduceIte, Nat.reduceEqDiff, Nat.reduceLeDiff, Nat.reduceAdd, Nat.reduceMul, Nat.reduceSub, reduceCtorEq, l32_0, l32_1, l32_2, l32_3, l32_4, l32_9, l32_11, l32_41, l32_93, l32_125, h9, is, h11, a2])
  · right
    rw [if_neg e] at is
    have ec : ¬ ck (TL b n)[i] = c := fun q => e ((ck_sg (by omega)).mp q)
    obtain ⟨t', s', a1, a2, a3, a4, a5⟩ := p_wrong (N := N) (X := X) h
    have a1' : cf_202 N X (Int32.ofNat 0) (Int32.ofNat 2) t = some (t', .inr ()) := a1
    refine ⟨t', s', ?_, ?_, a3, a4, a5⟩
    · have kx : ∀ (g : cS → Option Value → kO), ko_call 5 (some (t', .inr ())) g = some (t', .inr ()) := fun _ => rfl
      unfold cf_201 cf_201_0 cf_201_8 cf_201_16 cf_201_17
      simp (disch := omega) only [ev_S, ev_C, ↓reduceIte, Nat.reduceEqDiff, Nat.reduceLeDiff, Nat.reduceAdd, Nat.reduceMul, Nat.reduceSub, reduceCtorEq, l32_0, l32_1, l32_2, l32_3, l32_4, l32_5, l32_6, l32_7, l32_8, l32_9, l32_10, e42, ec, a1', kx]
    · unfold mf_267 mf_267_0 mf_267_8 mf_267_13 mf_267_51 mf_267_55
      simp (disch := omega) only [ev_S, ev_P, ↓reduceIte, Nat.reduceEqDiff, Nat.reduceLeDiff, Nat.reduceAdd, Nat.reduceMul, Nat.reduceSub, reduceCtorEq, l32_0, l32_1, l32_2, l32_3, l32_4, l32_5, l32_6, l32_7, l32_8, l32_9, l32_10, h9, is, a2]
/-- a sign that opens -/
theorem p_opens {c : Nat} (hN : 170000 ≤ N) (h : pR b n i op t s) (hc : c = 40 ∨ c = 91 ∨ c = 123) : (∃ t' s', cf_201 N X (Int32.ofNat c) t = some (t', .inl none) ∧ mf_268 N (Int32.ofNat c) s = some (s', none) ∧ (∃ hi : i < (TL b n).length, (TL b n)[i].1 = c) ∧ op < 10 ∧ pR b n (i + 1) (op + 1) t' s' ∧ gL eP a0 t t' ∧ fPs s s') ∨ (∃ t' s', cf_201 N X (Int32.ofNat c) t = some (t', .inr ()) ∧ mf_268 N (Int32.ofNat c) s = some (s', none) ∧ pF t' s' ∧ gX eP a0 t t' ∧ fPs s s') := by
  obtain ⟨hi, e5, e6, e7, hk, ho, he, hlt, hll⟩ := h.now
  have h9 : s.1 9 = Int32.ofNat 0 := h.2.2.2.2.2.2.2.2.2
  have h2 := h.2.2.1.1
  have h11 := h.2.2.2.2.2.2.2.2.1
  have h10 := h.2.2.2.1
  have h5 := h.2.2.2.2.1
  have e42 : cf_42 N X t = some (t, .inl (some (.int (Int32.ofNat (ck (TL b n)[i]))))) := by
    repeat ((first | unfold cf_42 | unfold cf_42_0); try simp (disch := omega) only [ev_S, ev_C, ↓reduceIte, Nat.reduceEqDiff, Nat.reduceLeDiff, Nat.reduceAdd, Nat.reduceMul, Nat.reduceSub, reduceCtorEq, l32_0, l32_1, l32_2, l32_3, l32_4, l32_5, e5])
  have is := r_isSign (N := N) (c := c) hk (by omega) (by omega)
  have kx : ∀ (t' : cS) (g : cS → Option Value → kO), ko_call 5 (some (t', .inr ())) g = some (t', .inr ()) := fun _ _ => rfl
  by_cases e : (TL b n)[i].1 = c
  · rw [if_pos e] at is
    have ec := (ck_sg (k := (TL b n)[i]) (c := c) (by omega)).mpr e
    rw [ec] at e42
    by_cases co : op < 10
    · left
      obtain ⟨t', s', a1, a2, a3, a4, a5⟩ := p_adv (N := N) (X := X) hN (h.oI (x := op + 1) (by omega)) (fun _ => by show 2 ≤ (TL b n)[i].1; omega)
      refine ⟨t', s', ?_, ?_, ⟨hi, e⟩, co, a3, gL.tr (t1 := jI t 2 2 (Int32.ofNat (op + 1))) gL_oI a4, mfr.tr (s1 := mI s 11 (Int32.ofNat (op + 1))) fPs_oI a5⟩
      · rcases hc with rfl | rfl | rfl
        · repeat ((first | unfold cf_201 | unfold cf_201_0 | unfold cf_201_8 | unfold cf_201_12 | unfold cf_201_16 | unfold cf_201_17 | unfold cf_201_21 | unfold cf_201_27 | unfold cf_201_33 | unfold cf_201_39 | unfold cf_201_49 | unfold cf_201_53 | unfold cf_201_54 | unfold cf_201_58 | unfold cf_201_71 | unfold cf_201_77 | unfold cf_201_83 | unfold cf_201_89 | unfold cf_201_99 | unfold cf_201_106); try simp (disch := omega) only [ev_S, ev_C, ↓reduceIte, Nat.reduceEqDiff, Nat.reduceLeDiff, Nat.reduceAdd, Nat.reduceMul, Nat.reduceSub, reduceCtorEq, l32_0, l32_1, l32_2, l32_3, l32_4, l32_5, l32_10, l32_40, l32_41, l32_91, l32_93, l32_123, l32_125, e42, c_fine, h2, a1])
        · repeat ((first | unfold cf_201 | unfold cf_201_0 | unfold cf_201_8 | unfold cf_201_12 | unfold cf_201_16 | unfold cf_201_17 | unfold cf_201_21 | unfold cf_201_27 | unfold cf_201_33 | unfold cf_201_39 | unfold cf_201_49 | unfold cf_201_53 | unfold cf_201_54 | unfold cf_201_58 | unfold cf_201_71 | unfold cf_201_77 | unfold cf_201_83 | unfold cf_201_89 | unfold cf_201_99 | unfold cf_201_106); try simp (disch := omega) only [ev_S, ev_C, ↓reduceIte, Nat.reduceEqDiff, Nat.reduceLeDiff, Nat.reduceAdd, Nat.reduceMul, Nat.reduceSub, reduceCtorEq, l32_0, l32_1, l32_2, l32_3, l32_4, l32_5, l32_10, l32_40, l32_41, l32_91, l32_93, l32_123, l32_125, e42, c_fine, h2, a1, l32_91])
        · repeat ((first | unfold cf_201 | unfold cf_201_0 | unfold cf_201_8 | unfold cf_201_12 | unfold cf_201_16 | unfold cf_201_17 | unfold cf_201_21 | unfold cf_201_27 | unfold cf_201_33 | unfold cf_201_39 | unfold cf_201_49 | unfold cf_201_53 | unfold cf_201_54 | unfold cf_201_58 | unfold cf_201_71 | unfold cf_201_77 | unfold cf_201_83 | unfold cf_201_89 | unfold cf_201_99 | unfold cf_201_106); try simp (disch := omega) only [ev_S, ev_C, ↓reduceIte, Nat.reduceEqDiff, Nat.reduceLeDiff, Nat.reduceAdd, Nat.reduceMul, Nat.reduceSub, reduceCtorEq, l32_0, l32_1, l32_2, l32_3, l32_4, l32_5, l32_10, l32_40, l32_41, l32_91, l32_93, l32_123, l32_125, e42, c_fine, h2, a1, l32_91, l32_123])
      · repeat ((first | unfold mf_268 | unfold mf_268_0 | unfold mf_268_7 | unfold mf_268_8 | unfold mf_268_13 | unfold mf_268_16 | unfold mf_268_20 | unfold mf_268_21 | unfold mf_268_40 | unfold mf_268_49 | unfold mf_268_52 | unfold mf_268_56); try simp (disch := omega) only [ev_S, ev_P, ↓reduceIte, Nat.reduceEqDiff, Nat.reduceLeDiff, Nat.reduceAdd, Nat.reduceMul, Nat.reduceSub, reduceCtorEq, l32_0, l32_1, l32_2, l32_3, l32_4, l32_6, l32_9, l32_10, l32_11, h9, is, h11, a2])
    · right
      obtain ⟨t', a1, a2, hi', a3, a4⟩ := c_fail (N := N) (X := X) (x := 3) h (by omega)
      rw [if_neg (by omega)] at a3
      have a1' : cf_202 N X (Int32.ofNat 0) (Int32.ofNat 3) t = some (t', .inr ()) := a1
      have e6' := hk.1
      have br := r_breaks (N := N) (s := mI s 11 (Int32.ofNat (op + 1))) (x := Int32.ofNat 3) (y := Int32.ofNat (TL b n)[i].2.2.2.1) h9
      have ha := TL_at hi
      refine ⟨t', flt (mI s 11 (Int32.ofNat (op + 1))) (Int32.ofNat 3) (Int32.ofNat (TL b n)[i].2.2.2.1), ?_, ?_, ⟨3, (TL b n)[i].2.2.2.1, by omega, by omega, by omega, a3, a4, rfl, rfl⟩, a2, ⟨fun q r => ?_, fun _ _ => rfl, fun _ _ => rfl, fun _ _ => rfl⟩⟩
      · rcases hc with rfl | rfl | rfl
        · unfold cf_201 cf_201_0 cf_201_8 cf_201_12 cf_201_17 cf_201_21 cf_201_39 cf_201_53 cf_201_54
          simp (disch := omega) only [ev_S, ev_C, ↓reduceIte, Nat.reduceEqDiff, Nat.reduceLeDiff, Nat.reduceAdd, Nat.reduceMul, Nat.reduceSub, reduceCtorEq, l32_0, l32_1, l32_2, l32_3, l32_4, l32_5, l32_6, l32_7, l32_8, l32_9, l32_10, e42, c_fine, h2, a1', kx, l32_40]
        · unfold cf_201 cf_201_0 cf_201_8 cf_201_12 cf_201_17 cf_201_21 cf_201_27 cf_201_39 cf_201_53 cf_201_54
          simp (disch := omega) only [ev_S, ev_C, ↓reduceIte, Nat.reduceEqDiff, Nat.reduceLeDiff, Nat.reduceAdd, Nat.reduceMul, Nat.reduceSub, reduceCtorEq, l32_0, l32_1, l32_2, l32_3, l32_4, l32_5, l32_6, l32_7, l32_8, l32_9, l32_10, e42, c_fine, h2, a1', kx, l32_40, l32_91]
        · unfold cf_201 cf_201_0 cf_201_8 cf_201_12 cf_201_17 cf_201_21 cf_201_27 cf_201_33 cf_201_39 cf_201_53 cf_201_54
          simp (disch := omega) only [ev_S, ev_C, ↓reduceIte, Nat.reduceEqDiff, Nat.reduceLeDiff, Nat.reduceAdd, Nat.reduceMul, Nat.reduceSub, reduceCtorEq, l32_0, l32_1, l32_2, l32_3, l32_4, l32_5, l32_6, l32_7, l32_8, l32_9, l32_10, e42, c_fine, h2, a1', kx, l32_40, l32_91, l32_123]
      · repeat ((first | unfold mf_268 | unfold mf_268_0 | unfold mf_268_7 | unfold mf_268_8 | unfold mf_268_13 | unfold mf_268_16 | unfold mf_268_20 | unfold mf_268_21 | unfold mf_268_40 | unfold mf_268_49 | unfold mf_268_52 | unfold mf_268_56); try simp (disch := omega) only [ev_S, ev_P, ↓reduceIte, Nat.reduceEqDiff, Nat.reduceLeDiff, Nat.reduceAdd, Nat.reduceMul, Nat.reduceSub, reduceCtorEq, l32_0, l32_1, l32_2, l32_3, l32_4, l32_6, l32_9, l32_10, l32_11, h9, is, h11, e6', br])
      · show (if q = 10 then _ else if q = 9 then _ else if q = 11 then _ else s.1 q) = _
        rw [if_neg (by omega), if_neg (by omega), if_neg (by omega)]
  · right
    rw [if_neg e] at is
    have ec : ¬ ck (TL b n)[i] = c := fun q => e ((ck_sg (by omega)).mp q)
    obtain ⟨t', s', a1, a2, a3, a4, a5⟩ := p_wrong (N := N) (X := X) h
    have a1' : cf_202 N X (Int32.ofNat 0) (Int32.ofNat 2) t = some (t', .inr ()) := a1
    refine ⟨t', s', ?_, ?_, a3, a4, a5⟩
    · unfold cf_201 cf_201_0 cf_201_8 cf_201_16 cf_201_17
      simp (disch := omega) only [ev_S, ev_C, ↓reduceIte, Nat.reduceEqDiff, Nat.reduceLeDiff, Nat.reduceAdd, Nat.reduceMul, Nat.reduceSub, reduceCtorEq, l32_0, l32_1, l32_2, l32_3, l32_4, l32_5, l32_6, l32_7, l32_8, l32_9, l32_10, e42, ec, a1', kx]
    · unfold mf_268 mf_268_0 mf_268_8 mf_268_13 mf_268_16 mf_268_20
      simp (disch := omega) only [ev_S, ev_P, ↓reduceIte, Nat.reduceEqDiff, Nat.reduceLeDiff, Nat.reduceAdd, Nat.reduceMul, Nat.reduceSub, reduceCtorEq, l32_0, l32_1, l32_2, l32_3, l32_4, l32_5, l32_6, l32_7, l32_8, l32_9, l32_10, h9, is, a2]
end PAT
end
-- ### 89i.pure.lean.txt
section
/-! ===== PURE: code is emitted ===== -/
/-- the class's code: acts, arguments, places -/
def cCd (t : cS) (p : Nat) (L : List (Int32 × Int32 × Int32)) : Prop := kP t 2 1 = some p ∧ (p = 12 ∨ p = 21) ∧ kI t p 3 = Int32.ofNat L.length ∧ (∀ i (hi : i < L.length), (kA t (p + 1)).2 i = L[i].1 ∧ (kA t (p + 2)).2 i = L[i].2.1 ∧ (kA t (p + 3)).2 i = L[i].2.2) ∧ (kA t (p + 2)).1 = (kA t (p + 1)).1 ∧ (kA t (p + 3)).1 = (kA t (p + 1)).1 ∧ L.length ≤ (kA t (p + 1)).1 ∧ 1 ≤ (kA t (p + 1)).1 ∧ (kA t (p + 1)).1 < 13000
abbrev eC (p : Nat) : Nat → Nat → Prop := fun k f => k = p ∧ f = 3
abbrev aC (p : Nat) : Nat → Prop := fun k => k = p + 1 ∨ k = p + 2 ∨ k = p + 3
section EMI
variable {N : Nat} {X : Nat → Option zz_C} {t : cS} {L : List (Int32 × Int32 × Int32)}
theorem get_app4 {v : Int32 × Int32 × Int32} {g4 g5 g6 : Nat → Int32} (h : ∀ i (hi : i < L.length), g4 i = L[i].1 ∧ g5 i = L[i].2.1 ∧ g6 i = L[i].2.2) (hv : g4 L.length = v.1 ∧ g5 L.length = v.2.1 ∧ g6 L.length = v.2.2) : ∀ i (hi : i < (L ++ [v]).length), g4 i = (L ++ [v])[i].1 ∧ g5 i = (L ++ [v])[i].2.1 ∧ g6 i = (L ++ [v])[i].2.2 := fun i hi => by
  rw [List.length_append] at hi
  have hi : i < L.length + 1 := hi
  by_cases c : i < L.length
  · rw [List.getElem_append_left c]
    exact h i c
  · have e : i = L.length := by omega
    subst e
    rw [List.getElem_append_right (Nat.le_refl _)]
    simp only [Nat.sub_self, List.getElem_cons_zero]
    exact hv
theorem c_emit12 {k a v : Int32} (h : cCd t 12 L) (h8 : rmG t) (hl : L.length < 6500) : ∃ t', cf_209 N X 12 k a v t = some (t', .inl (some (.int (Int32.ofNat L.length)))) ∧ cCd t' 12 (L ++ [(k, a, v)]) ∧ gL (eC 12) (aC 12) t t' ∧ kL t' = kL t := by
  obtain ⟨h0, -, h1, h2, h3, h4, h5, h6, h7⟩ := h
  have h1 : kI t 12 3 = Int32.ofNat L.length := h1
  have h3 : (kA t 14).1 = (kA t 13).1 := h3
  have h4 : (kA t 15).1 = (kA t 13).1 := h4
  have h5 : L.length ≤ (kA t 13).1 := h5
  have h6 : 1 ≤ (kA t 13).1 := h6
  have h7 : (kA t 13).1 < 13000 := h7
  have ll : (L ++ [(k, a, v)]).length = L.length + 1 := List.length_append
  have hk9 := h8.k
  by_cases c : L.length = (kA t 13).1
  · have hl1 := lgc2 (a := (kA t 13).1) (b := 2 * L.length) h6 (by omega) (by omega)
    have hm : Nat.min L.length (2 * L.length) = L.length := Nat.min_eq_left (by omega)
    have c4 : (kA t 13).1 = L.length := c.symm
    have c5 : (kA t 14).1 = L.length := by omega
    have c6 : (kA t 15).1 = L.length := by omega
    obtain ⟨t1, ht1⟩ : ∃ t1, t1 = jMv (jNI (jMv (jNI (jMv (jNI t 1 (2 * L.length) (kcp 0 (kA t 13).2 L.length)) 13) 1 (2 * L.length) (kcp 0 (kA t 14).2 L.length)) 14) 1 (2 * L.length) (kcp 0 (kA t 15).2 L.length)) 15 := ⟨_, rfl⟩
    have st : cf_209 N X 12 k a v t = cf_209_63 N X 12 k a v t1 := by
      rw [ht1]
      unfold cf_209 cf_209_0 cf_209_12 cf_209_29 cf_209_46
      simp (disch := omega) only [ev_S, ev_C, ↓reduceIte, Nat.reduceEqDiff, Nat.reduceLeDiff, Nat.reduceAdd, Nat.reduceMul, Nat.reduceSub, reduceCtorEq, l32_0, l32_1, l32_2, l32_3, l32_4, l32_5, l32_6, l32_7, l32_8, l32_9, l32_10, h1, c4, c5, c6, hm, h0]
    have a4 : kA t1 13 = (2 * L.length, kcp 0 (kA t 13).2 L.length) := by rw [ht1]; rfl
    have a5 : kA t1 14 = (2 * L.length, kcp 0 (kA t 14).2 L.length) := by rw [ht1]; rfl
    have a6 : kA t1 15 = (2 * L.length, kcp 0 (kA t 15).2 L.length) := by rw [ht1]; rfl
    have aI : kI t1 12 3 = Int32.ofNat L.length := by rw [ht1]; exact h1
    have g1 : gL (eC 12) (aC 12) t t1 := by
      have e0 : kN t1 = kN t + 1 + 1 + 1 := by rw [ht1]; rfl
      have e1 : kQ t1 = kQ t + 2 * L.length + 2 * L.length + 2 * L.length := by rw [ht1]; rfl
      have e2 : potL t1 = lgc (kA t 4).1 + lgc (kA t 5).1 + lgc (kB t 6).1 + lgc (kA t 8).1 + lgc (kB t 9).1 + lgc (kA t 10).1 + lgc (kA t 11).1 + lgc (2 * L.length) + lgc (2 * L.length) + lgc (2 * L.length) + lgc (kA t 22).1 + lgc (kA t 23).1 + lgc (kA t 24).1 := by rw [ht1]; rfl
      have e3 : poqL t1 = 2 * (kA t 4).1 + 2 * (kA t 5).1 + 2 * (kB t 6).1 + 2 * (kA t 8).1 + 2 * (kB t 9).1 + 2 * (kA t 10).1 + 2 * (kA t 11).1 + 2 * (2 * L.length) + 2 * (2 * L.length) + 2 * (2 * L.length) + 2 * (kA t 22).1 + 2 * (kA t 23).1 + 2 * (kA t 24).1 := by rw [ht1]; rfl
      refine ⟨fun k f r => by rw [ht1]; rfl, fun k f r => by rw [ht1]; rfl, fun k r1 r2 => ?_, by rw [ht1]; rfl, by rw [ht1]; rfl, by omega, ?_, ?_⟩
      · have q4 : ¬ k = 13 := fun z => r1 (Or.inl z)
        have q5 : ¬ k = 14 := fun z => r1 (Or.inr (Or.inl z))
        have q6 : ¬ k = 15 := fun z => r1 (Or.inr (Or.inr z))
        rw [ht1]
        refine ⟨?_, ?_, ?_⟩
        · simp (disch := omega) only [ev_S, ev_C, ↓reduceIte, Nat.reduceEqDiff, Nat.reduceLeDiff, Nat.reduceAdd, Nat.reduceMul, Nat.reduceSub, reduceCtorEq, l32_0, l32_1, l32_2, l32_3, l32_4, l32_5, l32_6, l32_7, l32_8, l32_9, l32_10, q4, q5, q6, r2]
        · simp (disch := omega) only [ev_S, ev_C, ↓reduceIte, Nat.reduceEqDiff, Nat.reduceLeDiff, Nat.reduceAdd, Nat.reduceMul, Nat.reduceSub, reduceCtorEq, l32_0, l32_1, l32_2, l32_3, l32_4, l32_5, l32_6, l32_7, l32_8, l32_9, l32_10, q4, q5, q6, r2]
        · simp (disch := omega) only [ev_S, ev_C, ↓reduceIte, Nat.reduceEqDiff, Nat.reduceLeDiff, Nat.reduceAdd, Nat.reduceMul, Nat.reduceSub, reduceCtorEq, l32_0, l32_1, l32_2, l32_3, l32_4, l32_5, l32_6, l32_7, l32_8, l32_9, l32_10, q4, q5, q6, r2]
      · rw [e0, e2]
        unfold potL
        rw [c5, c6, c4]
        rw [c4] at hl1
        omega
      · rw [e1, e3]
        unfold poqL
        omega
    refine ⟨jI (jA (jA (jA t1 13 (upd (kcp 0 (kA t 13).2 L.length) L.length k)) 14 (upd (kcp 0 (kA t 14).2 L.length) L.length a)) 15 (upd (kcp 0 (kA t 15).2 L.length) L.length v)) 12 3 (Int32.ofNat (L.length + 1)), ?_, ⟨?_, Or.inl rfl, by rw [ll]; rfl, ?_, ?_, ?_, ?_, ?_, ?_⟩, gL.tr (t1 := t1) g1 ⟨fun k f r => if_neg r, fun _ _ _ => rfl, fun k r1 r2 => ⟨?_, rfl, rfl⟩, rfl, rfl, Nat.le_refl _, Nat.le_refl _, Nat.le_refl _⟩, by rw [ht1]; rfl⟩
    · rw [st]
      unfold cf_209_63
      simp (disch := omega) only [ev_S, ev_C, ↓reduceIte, Nat.reduceEqDiff, Nat.reduceLeDiff, Nat.reduceAdd, Nat.reduceMul, Nat.reduceSub, reduceCtorEq, l32_0, l32_1, l32_2, l32_3, l32_4, l32_5, l32_6, l32_7, l32_8, l32_9, l32_10, aI, a4, a5, a6]
    · rw [ht1]
      exact h0
    · refine get_app4 (fun i hi => ?_) ⟨if_pos rfl, if_pos rfl, if_pos rfl⟩
      obtain ⟨q1, q2, q3⟩ := h2 i hi
      refine ⟨?_, ?_, ?_⟩
      · show upd (kcp 0 (kA t 13).2 L.length) L.length k i = _
        rw [upd_n (by omega), kcp_lt hi]
        exact q1
      · show upd (kcp 0 (kA t 14).2 L.length) L.length a i = _
        rw [upd_n (by omega), kcp_lt hi]
        exact q2
      · show upd (kcp 0 (kA t 15).2 L.length) L.length v i = _
        rw [upd_n (by omega), kcp_lt hi]
        exact q3
    · show (kA t1 14).1 = (kA t1 13).1
      rw [a4, a5]
    · show (kA t1 15).1 = (kA t1 13).1
      rw [a4, a6]
    · show _ ≤ (kA t1 13).1
      rw [a4, ll]
      show L.length + 1 ≤ 2 * L.length
      omega
    · show 1 ≤ (kA t1 13).1
      rw [a4]
      show 1 ≤ 2 * L.length
      omega
    · show (kA t1 13).1 < _
      rw [a4]
      show 2 * L.length < 13000
      omega
    · show (if k = 15 then _ else if k = 14 then _ else if k = 13 then _ else kA t1 k) = _
      rw [if_neg (fun z => r1 (Or.inr (Or.inr z))), if_neg (fun z => r1 (Or.inr (Or.inl z))), if_neg (fun z => r1 (Or.inl z))]
  · have c1 : L.length < (kA t 13).1 := by omega
    refine ⟨jI (jA (jA (jA t 13 (upd (kA t 13).2 L.length k)) 14 (upd (kA t 14).2 L.length a)) 15 (upd (kA t 15).2 L.length v)) 12 3 (Int32.ofNat (L.length + 1)), ?_, ⟨h0, Or.inl rfl, by rw [ll]; rfl, ?_, h3, h4, by rw [ll]; exact c1, h6, h7⟩, ⟨fun k f r => if_neg r, fun _ _ _ => rfl, fun k r1 r2 => ⟨?_, rfl, rfl⟩, rfl, rfl, Nat.le_refl _, Nat.le_refl _, Nat.le_refl _⟩, rfl⟩
    · unfold cf_209 cf_209_0 cf_209_63
      simp (disch := omega) only [ev_S, ev_C, ↓reduceIte, Nat.reduceEqDiff, Nat.reduceLeDiff, Nat.reduceAdd, Nat.reduceMul, Nat.reduceSub, reduceCtorEq, l32_0, l32_1, l32_2, l32_3, l32_4, l32_5, l32_6, l32_7, l32_8, l32_9, l32_10, h1, h3, h4, h0]
    · refine get_app4 (fun i hi => ?_) ⟨if_pos rfl, if_pos rfl, if_pos rfl⟩
      obtain ⟨q1, q2, q3⟩ := h2 i hi
      refine ⟨?_, ?_, ?_⟩
      · show upd (kA t 13).2 L.length k i = _
        rw [upd_n (by omega)]
        exact q1
      · show upd (kA t 14).2 L.length a i = _
        rw [upd_n (by omega)]
        exact q2
      · show upd (kA t 15).2 L.length v i = _
        rw [upd_n (by omega)]
        exact q3
    · show (if k = 15 then _ else if k = 14 then _ else if k = 13 then _ else kA t k) = _
      rw [if_neg (fun z => r1 (Or.inr (Or.inr z))), if_neg (fun z => r1 (Or.inr (Or.inl z))), if_neg (fun z => r1 (Or.inl z))]
theorem c_emit21 {k a v : Int32} (h : cCd t 21 L) (h8 : rmG t) (hl : L.length < 6500) : ∃ t', cf_209 N X 21 k a v t = some (t', .inl (some (.int (Int32.ofNat L.length)))) ∧ cCd t' 21 (L ++ [(k, a, v)]) ∧ gL (eC 21) (aC 21) t t' ∧ kL t' = kL t := by
  obtain ⟨h0, -, h1, h2, h3, h4, h5, h6, h7⟩ := h
  have h1 : kI t 21 3 = Int32.ofNat L.length := h1
  have h3 : (kA t 23).1 = (kA t 22).1 := h3
  have h4 : (kA t 24).1 = (kA t 22).1 := h4
  have h5 : L.length ≤ (kA t 22).1 := h5
  have h6 : 1 ≤ (kA t 22).1 := h6
  have h7 : (kA t 22).1 < 13000 := h7
  have ll : (L ++ [(k, a, v)]).length = L.length + 1 := List.length_append
  have hk9 := h8.k
  by_cases c : L.length = (kA t 22).1
  · have hl1 := lgc2 (a := (kA t 22).1) (b := 2 * L.length) h6 (by omega) (by omega)
    have hm : Nat.min L.length (2 * L.length) = L.length := Nat.min_eq_left (by omega)
    have c4 : (kA t 22).1 = L.length := c.symm
    have c5 : (kA t 23).1 = L.length := by omega
    have c6 : (kA t 24).1 = L.length := by omega
    obtain ⟨t1, ht1⟩ : ∃ t1, t1 = jMv (jNI (jMv (jNI (jMv (jNI t 1 (2 * L.length) (kcp 0 (kA t 22).2 L.length)) 22) 1 (2 * L.length) (kcp 0 (kA t 23).2 L.length)) 23) 1 (2 * L.length) (kcp 0 (kA t 24).2 L.length)) 24 := ⟨_, rfl⟩
    have st : cf_209 N X 21 k a v t = cf_209_63 N X 21 k a v t1 := by
      rw [ht1]
      unfold cf_209 cf_209_0 cf_209_12 cf_209_29 cf_209_46
      simp (disch := omega) only [ev_S, ev_C, ↓reduceIte, Nat.reduceEqDiff, Nat.reduceLeDiff, Nat.reduceAdd, Nat.reduceMul, Nat.reduceSub, reduceCtorEq, l32_0, l32_1, l32_2, l32_3, l32_4, l32_5, l32_6, l32_7, l32_8, l32_9, l32_10, h1, c4, c5, c6, hm, h0]
    have a4 : kA t1 22 = (2 * L.length, kcp 0 (kA t 22).2 L.length) := by rw [ht1]; rfl
    have a5 : kA t1 23 = (2 * L.length, kcp 0 (kA t 23).2 L.length) := by rw [ht1]; rfl
    have a6 : kA t1 24 = (2 * L.length, kcp 0 (kA t 24).2 L.length) := by rw [ht1]; rfl
    have aI : kI t1 21 3 = Int32.ofNat L.length := by rw [ht1]; exact h1
    have g1 : gL (eC 21) (aC 21) t t1 := by
      have e0 : kN t1 = kN t + 1 + 1 + 1 := by rw [ht1]; rfl
      have e1 : kQ t1 = kQ t + 2 * L.length + 2 * L.length + 2 * L.length := by rw [ht1]; rfl
      have e2 : potL t1 = lgc (kA t 4).1 + lgc (kA t 5).1 + lgc (kB t 6).1 + lgc (kA t 8).1 + lgc (kB t 9).1 + lgc (kA t 10).1 + lgc (kA t 11).1 + lgc (kA t 13).1 + lgc (kA t 14).1 + lgc (kA t 15).1 + lgc (2 * L.length) + lgc (2 * L.length) + lgc (2 * L.length) := by rw [ht1]; rfl
      have e3 : poqL t1 = 2 * (kA t 4).1 + 2 * (kA t 5).1 + 2 * (kB t 6).1 + 2 * (kA t 8).1 + 2 * (kB t 9).1 + 2 * (kA t 10).1 + 2 * (kA t 11).1 + 2 * (kA t 13).1 + 2 * (kA t 14).1 + 2 * (kA t 15).1 + 2 * (2 * L.length) + 2 * (2 * L.length) + 2 * (2 * L.length) := by rw [ht1]; rfl
      refine ⟨fun k f r => by rw [ht1]; rfl, fun k f r => by rw [ht1]; rfl, fun k r1 r2 => ?_, by rw [ht1]; rfl, by rw [ht1]; rfl, by omega, ?_, ?_⟩
      · have q4 : ¬ k = 22 := fun z => r1 (Or.inl z)
        have q5 : ¬ k = 23 := fun z => r1 (Or.inr (Or.inl z))
        have q6 : ¬ k = 24 := fun z => r1 (Or.inr (Or.inr z))
        rw [ht1]
        refine ⟨?_, ?_, ?_⟩
        · simp (disch := omega) only [ev_S, ev_C, ↓reduceIte, Nat.reduceEqDiff, Nat.reduceLeDiff, Nat.reduceAdd, Nat.reduceMul, Nat.reduceSub, reduceCtorEq, l32_0, l32_1, l32_2, l32_3, l32_4, l32_5, l32_6, l32_7, l32_8, l32_9, l32_10, q4, q5, q6, r2]
        · simp (disch := omega) only [ev_S, ev_C, ↓reduceIte, Nat.reduceEqDiff, Nat.reduceLeDiff, Nat.reduceAdd, Nat.reduceMul, Nat.reduceSub, reduceCtorEq, l32_0, l32_1, l32_2, l32_3, l32_4, l32_5, l32_6, l32_7, l32_8, l32_9, l32_10, q4, q5, q6, r2]
        · simp (disch := omega) only [ev_S, ev_C, ↓reduceIte, Nat.reduceEqDiff, Nat.reduceLeDiff, Nat.reduceAdd, Nat.reduceMul, Nat.reduceSub, reduceCtorEq, l32_0, l32_1, l32_2, l32_3, l32_4, l32_5, l32_6, l32_7, l32_8, l32_9, l32_10, q4, q5, q6, r2]
      · rw [e0, e2]
        unfold potL
        rw [c5, c6, c4]
        rw [c4] at hl1
        omega
      · rw [e1, e3]
        unfold poqL
        omega
    refine ⟨jI (jA (jA (jA t1 22 (upd (kcp 0 (kA t 22).2 L.length) L.length k)) 23 (upd (kcp 0 (kA t 23).2 L.length) L.length a)) 24 (upd (kcp 0 (kA t 24).2 L.length) L.length v)) 21 3 (Int32.ofNat (L.length + 1)), ?_, ⟨?_, Or.inr rfl, by rw [ll]; rfl, ?_, ?_, ?_, ?_, ?_, ?_⟩, gL.tr (t1 := t1) g1 ⟨fun k f r => if_neg r, fun _ _ _ => rfl, fun k r1 r2 => ⟨?_, rfl, rfl⟩, rfl, rfl, Nat.le_refl _, Nat.le_refl _, Nat.le_refl _⟩, by rw [ht1]; rfl⟩
    · rw [st]
      unfold cf_209_63
      simp (disch := omega) only [ev_S, ev_C, ↓reduceIte, Nat.reduceEqDiff, Nat.reduceLeDiff, Nat.reduceAdd, Nat.reduceMul, Nat.reduceSub, reduceCtorEq, l32_0, l32_1, l32_2, l32_3, l32_4, l32_5, l32_6, l32_7, l32_8, l32_9, l32_10, aI, a4, a5, a6]
    · rw [ht1]
      exact h0
    · refine get_app4 (fun i hi => ?_) ⟨if_pos rfl, if_pos rfl, if_pos rfl⟩
      obtain ⟨q1, q2, q3⟩ := h2 i hi
      refine ⟨?_, ?_, ?_⟩
      · show upd (kcp 0 (kA t 22).2 L.length) L.length k i = _
        rw [upd_n (by omega), kcp_lt hi]
        exact q1
      · show upd (kcp 0 (kA t 23).2 L.length) L.length a i = _
        rw [upd_n (by omega), kcp_lt hi]
        exact q2
      · show upd (kcp 0 (kA t 24).2 L.length) L.length v i = _
        rw [upd_n (by omega), kcp_lt hi]
        exact q3
    · show (kA t1 23).1 = (kA t1 22).1
      rw [a4, a5]
    · show (kA t1 24).1 = (kA t1 22).1
      rw [a4, a6]
    · show _ ≤ (kA t1 22).1
      rw [a4, ll]
      show L.length + 1 ≤ 2 * L.length
      omega
    · show 1 ≤ (kA t1 22).1
      rw [a4]
      show 1 ≤ 2 * L.length
      omega
    · show (kA t1 22).1 < _
      rw [a4]
      show 2 * L.length < 13000
      omega
    · show (if k = 24 then _ else if k = 23 then _ else if k = 22 then _ else kA t1 k) = _
      rw [if_neg (fun z => r1 (Or.inr (Or.inr z))), if_neg (fun z => r1 (Or.inr (Or.inl z))), if_neg (fun z => r1 (Or.inl z))]
  · have c1 : L.length < (kA t 22).1 := by omega
    refine ⟨jI (jA (jA (jA t 22 (upd (kA t 22).2 L.length k)) 23 (upd (kA t 23).2 L.length a)) 24 (upd (kA t 24).2 L.length v)) 21 3 (Int32.ofNat (L.length + 1)), ?_, ⟨h0, Or.inr rfl, by rw [ll]; rfl, ?_, h3, h4, by rw [ll]; exact c1, h6, h7⟩, ⟨fun k f r => if_neg r, fun _ _ _ => rfl, fun k r1 r2 => ⟨?_, rfl, rfl⟩, rfl, rfl, Nat.le_refl _, Nat.le_refl _, Nat.le_refl _⟩, rfl⟩
    · unfold cf_209 cf_209_0 cf_209_63
      simp (disch := omega) only [ev_S, ev_C, ↓reduceIte, Nat.reduceEqDiff, Nat.reduceLeDiff, Nat.reduceAdd, Nat.reduceMul, Nat.reduceSub, reduceCtorEq, l32_0, l32_1, l32_2, l32_3, l32_4, l32_5, l32_6, l32_7, l32_8, l32_9, l32_10, h1, h3, h4, h0]
    · refine get_app4 (fun i hi => ?_) ⟨if_pos rfl, if_pos rfl, if_pos rfl⟩
      obtain ⟨q1, q2, q3⟩ := h2 i hi
      refine ⟨?_, ?_, ?_⟩
      · show upd (kA t 22).2 L.length k i = _
        rw [upd_n (by omega)]
        exact q1
      · show upd (kA t 23).2 L.length a i = _
        rw [upd_n (by omega)]
        exact q2
      · show upd (kA t 24).2 L.length v i = _
        rw [upd_n (by omega)]
        exact q3
    · show (if k = 24 then _ else if k = 23 then _ else if k = 22 then _ else kA t k) = _
      rw [if_neg (fun z => r1 (Or.inr (Or.inr z))), if_neg (fun z => r1 (Or.inr (Or.inl z))), if_neg (fun z => r1 (Or.inl z))]
theorem c_emit {p : Nat} {k a v : Int32} (h : cCd t p L) (h8 : rmG t) (hl : L.length < 6500) : ∃ t', cf_209 N X p k a v t = some (t', .inl (some (.int (Int32.ofNat L.length)))) ∧ cCd t' p (L ++ [(k, a, v)]) ∧ gL (eC p) (aC p) t t' ∧ kL t' = kL t := by
  have hp := h.2.1
  rcases hp with rfl | rfl
  · exact c_emit12 h h8 hl
  · exact c_emit21 h h8 hl
theorem c_len {p : Nat} (h : cCd t p L) : cf_203 N X p t = some (t, .inl (some (.int (Int32.ofNat L.length)))) := by
  have h1 := h.2.2.1
  have hp := h.2.1
  repeat ((first | unfold cf_203 | unfold cf_203_0); try simp (disch := omega) only [ev_S, ev_C, ↓reduceIte, Nat.reduceEqDiff, Nat.reduceLeDiff, Nat.reduceAdd, Nat.reduceMul, Nat.reduceSub, reduceCtorEq, l32_0, l32_1, l32_2, l32_3, l32_4, l32_12, l32_21, hp, h1])
theorem c_amend {p m : Nat} {v : Int32} (h : cCd t p L) (hm : m < L.length) (hl : L.length < 6500) : ∃ t', cf_210 N X p (Int32.ofNat m) v t = some (t', .inl none) ∧ cCd t' p (L.set m (L[m].1, v, L[m].2.2)) ∧ gL (fun _ _ => False) (aC p) t t' ∧ kL t' = kL t := by
  obtain ⟨h0, hp, h1, h2, h3, h4, h5, h6, h7⟩ := h
  have ls : (L.set m (L[m].1, v, L[m].2.2)).length = L.length := List.length_set
  have hg : ∀ (g4 g5 g6 : Nat → Int32), (∀ i (hi : i < L.length), g4 i = L[i].1 ∧ g5 i = L[i].2.1 ∧ g6 i = L[i].2.2) → ∀ i (hi : i < (L.set m (L[m].1, v, L[m].2.2)).length), g4 i = (L.set m (L[m].1, v, L[m].2.2))[i].1 ∧ upd g5 m v i = (L.set m (L[m].1, v, L[m].2.2))[i].2.1 ∧ g6 i = (L.set m (L[m].1, v, L[m].2.2))[i].2.2 := fun g4 g5 g6 hh i hi => by
    have hi' : i < L.length := by rw [ls] at hi; exact hi
    by_cases c : i = m
    · subst c
      rw [List.getElem_set_self, upd_s]
      exact ⟨(hh i hi').1, rfl, (hh i hi').2.2⟩
    · rw [List.getElem_set_ne (by omega), upd_n c]
      exact hh i hi'
  have hlt : m < (kA t (p + 2)).1 := by omega
  rcases hp with rfl | rfl
  · refine ⟨jA t 14 (upd (kA t 14).2 m v), ?_, ⟨h0, Or.inl rfl, by rw [ls]; exact h1, hg _ _ _ h2, h3, h4, by rw [ls]; exact h5, h6, h7⟩, ⟨fun _ _ _ => rfl, fun _ _ _ => rfl, fun k r1 r2 => ⟨if_neg (fun z => r1 (Or.inr (Or.inl z))), rfl, rfl⟩, rfl, rfl, Nat.le_refl _, Nat.le_refl _, Nat.le_refl _⟩, rfl⟩
    repeat ((first | unfold cf_210 | unfold cf_210_0 | unfold cf_210_4 | unfold cf_210_12 | unfold cf_210_19); try simp (disch := omega) only [ev_S, ev_C, ↓reduceIte, Nat.reduceEqDiff, Nat.reduceLeDiff, Nat.reduceAdd, Nat.reduceMul, Nat.reduceSub, reduceCtorEq, l32_0, l32_1, l32_2, l32_3, l32_4, l32_12, l32_21, h1])
  · refine ⟨jA t 23 (upd (kA t 23).2 m v), ?_, ⟨h0, Or.inr rfl, by rw [ls]; exact h1, hg _ _ _ h2, h3, h4, by rw [ls]; exact h5, h6, h7⟩, ⟨fun _ _ _ => rfl, fun _ _ _ => rfl, fun k r1 r2 => ⟨if_neg (fun z => r1 (Or.inr (Or.inl z))), rfl, rfl⟩, rfl, rfl, Nat.le_refl _, Nat.le_refl _, Nat.le_refl _⟩, rfl⟩
    repeat ((first | unfold cf_210 | unfold cf_210_0 | unfold cf_210_4 | unfold cf_210_12 | unfold cf_210_19); try simp (disch := omega) only [ev_S, ev_C, ↓reduceIte, Nat.reduceEqDiff, Nat.reduceLeDiff, Nat.reduceAdd, Nat.reduceMul, Nat.reduceSub, reduceCtorEq, l32_0, l32_1, l32_2, l32_3, l32_4, l32_12, l32_21, h1])
end EMI
end
-- ### 89j.pure.lean.txt
section
/-! ===== PURE: the reference's orders ===== -/
abbrev R5 : Type := Int32 × Int32 × Int32 × Int32 × Int32
abbrev ob0 (e : Nat) : Nat := 4000 * (1 - e)
/-- the reference's orders of the half that is written -/
def rCd (s : mS) (e : Nat) (L : List R5) : Prop := s.1 12 = Int32.ofNat e ∧ e ≤ 1 ∧ s.1 28 = Int32.ofNat L.length ∧ L.length ≤ 3900 ∧ ∀ i (hi : i < L.length), s.2.2.1 23 (ob0 e + i) = L[i].1 ∧ s.2.2.1 24 (ob0 e + i) = L[i].2.1 ∧ s.2.2.1 25 (ob0 e + i) = L[i].2.2.1 ∧ s.2.2.1 26 (ob0 e + i) = L[i].2.2.2.1 ∧ s.2.2.1 27 (ob0 e + i) = L[i].2.2.2.2
/-- what writing orders leaves -/
def fO (e : Nat) (s s' : mS) : Prop := (∀ q, ¬ q = 28 → s'.1 q = s.1 q) ∧ (∀ q, s'.2.1 q = s.2.1 q) ∧ (∀ q, ¬ (q = 23 ∨ q = 24 ∨ q = 25 ∨ q = 26 ∨ q = 27) → s'.2.2.1 q = s.2.2.1 q) ∧ (∀ q, s'.2.2.2 q = s.2.2.2 q) ∧ ∀ q y, (y < ob0 e ∨ ob0 e + 4000 ≤ y) → s'.2.2.1 q y = s.2.2.1 q y
theorem fO.rf {e : Nat} {s : mS} : fO e s s := ⟨fun _ _ => rfl, fun _ => rfl, fun _ _ => rfl, fun _ => rfl, fun _ _ _ => rfl⟩
theorem fO.tr {e : Nat} {s s1 s2 : mS} (h : fO e s s1) (g : fO e s1 s2) : fO e s s2 := ⟨fun q r => (g.1 q r).trans (h.1 q r), fun q => (g.2.1 q).trans (h.2.1 q), fun q r => (g.2.2.1 q r).trans (h.2.2.1 q r), fun q => (g.2.2.2.1 q).trans (h.2.2.2.1 q), fun q y r => (g.2.2.2.2 q y r).trans (h.2.2.2.2 q y r)⟩
section ORD
variable {N : Nat} {s : mS} {e : Nat} {L : List R5}
theorem get_app5 {v : R5} {o : Nat} {g1 g2 g3 g4 g5 : Nat → Int32} (h : ∀ i (hi : i < L.length), g1 (o + i) = L[i].1 ∧ g2 (o + i) = L[i].2.1 ∧ g3 (o + i) = L[i].2.2.1 ∧ g4 (o + i) = L[i].2.2.2.1 ∧ g5 (o + i) = L[i].2.2.2.2) (hv : g1 (o + L.length) = v.1 ∧ g2 (o + L.length) = v.2.1 ∧ g3 (o + L.length) = v.2.2.1 ∧ g4 (o + L.length) = v.2.2.2.1 ∧ g5 (o + L.length) = v.2.2.2.2) : ∀ i (hi : i < (L ++ [v]).length), g1 (o + i) = (L ++ [v])[i].1 ∧ g2 (o + i) = (L ++ [v])[i].2.1 ∧ g3 (o + i) = (L ++ [v])[i].2.2.1 ∧ g4 (o + i) = (L ++ [v])[i].2.2.2.1 ∧ g5 (o + i) = (L ++ [v])[i].2.2.2.2 := fun i hi => by
  rw [List.length_append] at hi
  have hi : i < L.length + 1 := hi
  by_cases c : i < L.length
  · rw [List.getElem_append_left c]
    exact h i c
  · have e : i = L.length := by omega
    subst e
    rw [List.getElem_append_right (Nat.le_refl _)]
    simp only [Nat.sub_self, List.getElem_cons_zero]
    exact hv
theorem r_order {x1 x2 x3 x4 : Int32} (h : rCd s e L) (hl : L.length < 3900) : ∃ s', mf_271 N x1 x2 x3 x4 s = some (s', some (.int (Int32.ofNat (ob0 e + L.length)))) ∧ rCd s' e (L ++ [(x1, x2, x3, 0, x4)]) ∧ fO e s s' := by
  obtain ⟨h1, h2, h3, h4, h5⟩ := h
  have ll : (L ++ [(x1, x2, x3, (0 : Int32), x4)]).length = L.length + 1 := List.length_append
  have hb : ob0 e ≤ 4000 := by show 4000 * (1 - e) ≤ 4000; omega
  have e4 : Int32.ofNat 4000 * Int32.ofNat (1 - e) = Int32.ofNat (ob0 e) := i32mul
  generalize hB : ob0 e = B at *
  refine ⟨mI (mA (mA (mA (mA (mA s 23 (upd (s.2.2.1 23) (B + L.length) x1)) 24 (upd (s.2.2.1 24) (B + L.length) x2)) 25 (upd (s.2.2.1 25) (B + L.length) x3)) 26 (upd (s.2.2.1 26) (B + L.length) (Int32.ofNat 0))) 27 (upd (s.2.2.1 27) (B + L.length) x4)) 28 (Int32.ofNat (L.length + 1)), ?_, ⟨h1, h2, by rw [ll]; rfl, by rw [ll]; omega, ?_⟩, ⟨fun q r => if_neg r, fun _ => rfl, fun q r => ?_, fun _ => rfl, fun q y r => ?_⟩⟩
  · have e9 : Int32.ofNat 1 - Int32.ofNat e = Int32.ofNat (1 - e) := ev_sub h2
    unfold mf_271 mf_271_0
    simp (disch := omega) only [h1, h3, l32_1, l32_4000, e9, e4, i32add, ev_c, ev_lt, l32_0, ev_ltF, ev_leF, or_self, not_false_eq_true, ↓reduceIte, ev_P, Nat.reduceEqDiff]
  · rw [hB]
    refine get_app5 (fun i hi => ?_) ⟨if_pos rfl, if_pos rfl, if_pos rfl, if_pos rfl, if_pos rfl⟩
    obtain ⟨q1, q2, q3, q4, q5⟩ := h5 i hi
    refine ⟨?_, ?_, ?_, ?_, ?_⟩
    · show upd (s.2.2.1 23) (B + L.length) x1 (B + i) = _
      rw [upd_n (by omega)]
      exact q1
    · show upd (s.2.2.1 24) (B + L.length) x2 (B + i) = _
      rw [upd_n (by omega)]
      exact q2
    · show upd (s.2.2.1 25) (B + L.length) x3 (B + i) = _
      rw [upd_n (by omega)]
      exact q3
    · show upd (s.2.2.1 26) (B + L.length) _ (B + i) = _
      rw [upd_n (by omega)]
      exact q4
    · show upd (s.2.2.1 27) (B + L.length) x4 (B + i) = _
      rw [upd_n (by omega)]
      exact q5
  · show (if q = 27 then _ else if q = 26 then _ else if q = 25 then _ else if q = 24 then _ else if q = 23 then _ else s.2.2.1 q) = _
    rw [if_neg (by omega), if_neg (by omega), if_neg (by omega), if_neg (by omega), if_neg (by omega)]
  · rw [hB] at r
    have hu : ∀ (g : Nat → Int32) (v : Int32), upd g (B + L.length) v y = g y := fun g v => upd_n (by omega)
    show (if q = 27 then upd (s.2.2.1 27) (B + L.length) x4 else if q = 26 then upd (s.2.2.1 26) (B + L.length) (Int32.ofNat 0) else if q = 25 then upd (s.2.2.1 25) (B + L.length) x3 else if q = 24 then upd (s.2.2.1 24) (B + L.length) x2 else if q = 23 then upd (s.2.2.1 23) (B + L.length) x1 else s.2.2.1 q) y = _
    split
    · rename_i z
      rw [hu, z]
    · split
      · rename_i z
        rw [hu, z]
      · split
        · rename_i z
          rw [hu, z]
        · split
          · rename_i z
            rw [hu, z]
          · split
            · rename_i z
              rw [hu, z]
            · rfl
theorem r_here (h : rCd s e L) : mf_272 N s = some (s, some (.int (Int32.ofNat (ob0 e + L.length)))) := by
  obtain ⟨h1, h2, h3, h4, h5⟩ := h
  have e9 : Int32.ofNat 1 - Int32.ofNat e = Int32.ofNat (1 - e) := ev_sub h2
  have e4 : Int32.ofNat 4000 * Int32.ofNat (1 - e) = Int32.ofNat (ob0 e) := i32mul
  unfold mf_272 mf_272_0
  simp (disch := omega) only [h1, h3, l32_1, l32_4000, e9, e4, i32add]
/-- oa, ob, op1 of an order told anew -/
theorem rCd.seta {m : Nat} {v : Int32} (h : rCd s e L) (hm : m < L.length) : rCd (mA s 24 (upd (s.2.2.1 24) (ob0 e + m) v)) e (L.set m (L[m].1, v, L[m].2.2)) ∧ fO e s (mA s 24 (upd (s.2.2.1 24) (ob0 e + m) v)) := by
  obtain ⟨h1, h2, h3, h4, h5⟩ := h
  have ls : (L.set m (L[m].1, v, L[m].2.2)).length = L.length := List.length_set
  refine ⟨⟨h1, h2, by rw [ls]; exact h3, by rw [ls]; exact h4, fun i hi => ?_⟩, ⟨fun _ _ => rfl, fun _ => rfl, fun q r => if_neg (by omega), fun _ => rfl, fun q y r => ?_⟩⟩
  · have hi' : i < L.length := by rw [ls] at hi; exact hi
    obtain ⟨q1, q2, q3, q4, q5⟩ := h5 i hi'
    by_cases c : i = m
    · subst c
      rw [List.getElem_set_self]
      exact ⟨q1, if_pos rfl, q3, q4, q5⟩
    · rw [List.getElem_set_ne (by omega)]
      exact ⟨q1, (upd_n (by omega)).trans q2, q3, q4, q5⟩
  · show (if q = 24 then upd (s.2.2.1 24) (ob0 e + m) v else s.2.2.1 q) y = _
    split
    · rename_i z
      rw [upd_n (by omega), z]
    · rfl
theorem rCd.setb {m : Nat} {v : Int32} (h : rCd s e L) (hm : m < L.length) : rCd (mA s 25 (upd (s.2.2.1 25) (ob0 e + m) v)) e (L.set m (L[m].1, L[m].2.1, v, L[m].2.2.2)) ∧ fO e s (mA s 25 (upd (s.2.2.1 25) (ob0 e + m) v)) := by
  obtain ⟨h1, h2, h3, h4, h5⟩ := h
  have ls : (L.set m (L[m].1, L[m].2.1, v, L[m].2.2.2)).length = L.length := List.length_set
  refine ⟨⟨h1, h2, by rw [ls]; exact h3, by rw [ls]; exact h4, fun i hi => ?_⟩, ⟨fun _ _ => rfl, fun _ => rfl, fun q r => if_neg (by omega), fun _ => rfl, fun q y r => ?_⟩⟩
  · have hi' : i < L.length := by rw [ls] at hi; exact hi
    obtain ⟨q1, q2, q3, q4, q5⟩ := h5 i hi'
    by_cases c : i = m
    · subst c
      rw [List.getElem_set_self]
      exact ⟨q1, q2, if_pos rfl, q4, q5⟩
    · rw [List.getElem_set_ne (by omega)]
      exact ⟨q1, q2, (upd_n (by omega)).trans q3, q4, q5⟩
  · show (if q = 25 then upd (s.2.2.1 25) (ob0 e + m) v else s.2.2.1 q) y = _
    split
    · rename_i z
      rw [upd_n (by omega), z]
    · rfl
end ORD
end
-- ### 89k.pure.lean.txt
section
/-! ===== PURE: code, as both sides have it ===== -/
/-- what, a jump's target (or a function, or how many), a variable (or a sign, or a built-in), a number, places -/
abbrev Ins : Type := Nat × Nat × Nat × Int32 × Int32 × Int32 × Int32
abbrev C3 : Type := Int32 × Int32 × Int32
/-- not told yet -/
abbrev unk : Nat := 99999
def clen (c : Ins) : Nat := if c.1 = 4 ∨ c.1 = 18 ∨ c.1 = 25 then 2 else if c.1 = 10 ∨ c.1 = 12 then 3 else if c.1 = 26 then 0 else 1
def rlen (c : Ins) : Nat := if c.1 = 2 ∨ c.1 = 25 ∨ c.1 = 26 then 0 else if c.1 = 10 then 2 else 1
def posC (code : List Ins) (j : Nat) : Nat := ((code.take j).map clen).sum
def posR (code : List Ins) (j : Nat) : Nat := ((code.take j).map rlen).sum
/-- a variable as the class has it -/
def cv (r : Nat) : Int32 := if r < 8 then -Int32.ofNat (r + 1) else Int32.ofNat (r - 8)
def tgC (code : List Ins) (j d : Nat) : Int32 := if j = unk then 0 else Int32.ofNat (posC code j + d)
def tgR (e : Nat) (code : List Ins) (j d : Nat) : Int32 := if j = unk then 0 else Int32.ofNat (ob0 e + posR code j + d)
def fa (j : Nat) : Int32 := if j = unk then 0 else Int32.ofNat j
def fr (e j : Nat) : Int32 := if j = unk then 0 else Int32.ofNat (12 * (1 - e) + j)
/-- the acts of an instruction that stands at own -/
def cI (code : List Ins) (own : Nat) (c : Ins) : List C3 := match c with
  | (o, j, r, a, p, x, y) => if o = 0 then [(0, a, p)] else if o = 1 then [(1, cv r, p)] else if o = 2 then [(0, 0, p)] else if o = 3 then [(19, 45, p)] else if o = 4 then [(0, 0, p), (19, 317, p)] else if o = 5 then [(19, Int32.ofNat r, p)] else if o = 6 then [(20, Int32.ofNat j, p)] else if o = 7 then [(21, 0, p)] else if o = 8 then (if r = 5 then [(24, Int32.ofNat j, p)] else if j = 1 then [(22, Int32.ofNat (r + 11), p)] else [(23, Int32.ofNat (r + 11), p)]) else if o = 9 then [(28, fa j, p)] else if o = 10 then [(25, 0, p), (if r = 1 then 13 else 15, fa j, p), (if r = 1 then 14 else 16, Int32.ofNat (own + 1), p)] else if o = 11 then [(2, cv r, p)] else if o = 12 then [(1, cv r, x), (if j = 1 then 17 else 18, y, p), (2, cv r, x)] else if o = 13 then [(5, tgC code j 0, p)] else if o = 14 then [(4, tgC code j 0, p)] else if o = 15 then [(26, 0, p)] else if o = 16 then [(26, 0, p)] else if o = 17 then [(6, 0, p)] else if o = 18 then [(27, tgC code j 0, p), (2, cv r, p)] else if o = 19 then [(7, 0, p)] else if o = 20 then [(8, 0, p)] else if o = 21 then [(9, 0, p)] else if o = 22 then [(3, 0, 0)] else if o = 23 then [(10, tgC code j 0, 0)] else if o = 24 then [(11, tgC code j 0, 0)] else if o = 25 then [(12, 0, p), (2, cv r, p)] else if o = 26 then [] else [(0, 0, 0)]
/-- its orders -/
def rI (e : Nat) (code : List Ins) (c : Ins) : List R5 := match c with
  | (o, j, r, a, p, x, y) => if o = 0 then [(2, a, 0, 0, p)] else if o = 1 then [(3, Int32.ofNat r, 0, 0, p)] else if o = 2 then [] else if o = 3 then [(4, 45, 0, 0, p)] else if o = 4 then [(4, 33, 0, 0, p)] else if o = 5 then [(5, Int32.ofNat (sgv r), 0, 0, p)] else if o = 6 then [(6, Int32.ofNat j, 0, 0, p)] else if o = 7 then [(7, 0, 0, 0, p)] else if o = 8 then [(8, Int32.ofNat r, Int32.ofNat j, 0, p)] else if o = 9 then [(9, fr e j, Int32.ofNat r, 0, p)] else if o = 10 then [(10, Int32.ofNat (27 + r), 0, 0, p), (11, Int32.ofNat (27 + r), fr e j, 0, p)] else if o = 11 then [(12, Int32.ofNat r, 0, 0, p)] else if o = 12 then [(13, Int32.ofNat r, if j = 1 then -1 else y, x, p)] else if o = 13 then [(14, tgR e code j 0, 0, 0, p)] else if o = 14 then [(15, tgR e code j 0, 0, 0, 0)] else if o = 15 then [(16, 0, 0, 0, p)] else if o = 16 then [(1, 0, 0, 0, p)] else if o = 17 then [(17, 0, 0, 0, p)] else if o = 18 then [(18, tgR e code j 0, Int32.ofNat r, 0, p)] else if o = 19 then [(19, 0, 0, 0, p)] else if o = 20 then [(20, 0, 0, 0, p)] else if o = 21 then [(21, 0, 0, 0, p)] else if o = 22 then [(22, 0, 0, 0, x)] else if o = 23 then [(23, tgR e code j 0, Int32.ofNat r, 0, p)] else if o = 24 then [(24, tgR e code j 0, 0, 0, 0)] else if o = 25 then [] else if o = 26 then [] else [(2, 0, 0, 0, 0)]
def CA (code : List Ins) : List C3 := (List.range code.length).flatMap fun m => cI code (posC code m) (code.getD m (0, 0, 0, 0, 0, 0, 0))
def RA (e : Nat) (code : List Ins) : List R5 := (List.range code.length).flatMap fun m => rI e code (code.getD m (0, 0, 0, 0, 0, 0, 0))
/-- targets lie within -/
def wfC (code : List Ins) : Prop := ∀ c ∈ code, c.2.1 = unk ∨ c.2.1 ≤ code.length ∨ ¬ (c.1 = 13 ∨ c.1 = 14 ∨ c.1 = 18 ∨ c.1 = 23 ∨ c.1 = 24)
theorem posC_app {code l : List Ins} {j : Nat} (h : j ≤ code.length) : posC (code ++ l) j = posC code j := by
  unfold posC
  rw [List.take_append_of_le_length h]
theorem posR_app {code l : List Ins} {j : Nat} (h : j ≤ code.length) : posR (code ++ l) j = posR code j := by
  unfold posR
  rw [List.take_append_of_le_length h]
theorem tgC_app {code l : List Ins} {j d : Nat} (h : j = unk ∨ j ≤ code.length) : tgC (code ++ l) j d = tgC code j d := by
  unfold tgC
  by_cases c : j = unk
  · rw [if_pos c, if_pos c]
  · rw [if_neg c, if_neg c, posC_app (h.elim (fun z => absurd z c) (fun z => z))]
theorem tgR_app {e : Nat} {code l : List Ins} {j d : Nat} (h : j = unk ∨ j ≤ code.length) : tgR e (code ++ l) j d = tgR e code j d := by
  unfold tgR
  by_cases c : j = unk
  · rw [if_pos c, if_pos c]
  · rw [if_neg c, if_neg c, posR_app (h.elim (fun z => absurd z c) (fun z => z))]
theorem cI_app {code l : List Ins} {own : Nat} {c : Ins} (h : c.2.1 = unk ∨ c.2.1 ≤ code.length ∨ ¬ (c.1 = 13 ∨ c.1 = 14 ∨ c.1 = 18 ∨ c.1 = 23 ∨ c.1 = 24)) : cI (code ++ l) own c = cI code own c := by
  obtain ⟨o, j, r, a, p, x, y⟩ := c
  have h : j = unk ∨ j ≤ code.length ∨ ¬ (o = 13 ∨ o = 14 ∨ o = 18 ∨ o = 23 ∨ o = 24) := h
  by_cases q : j = unk ∨ j ≤ code.length
  · unfold cI
    dsimp only
    rw [tgC_app q]
  · have q : ¬ (o = 13 ∨ o = 14 ∨ o = 18 ∨ o = 23 ∨ o = 24) := by omega
    have n1 : ¬ o = 13 := by omega
    have n2 : ¬ o = 14 := by omega
    have n3 : ¬ o = 18 := by omega
    have n4 : ¬ o = 23 := by omega
    have n5 : ¬ o = 24 := by omega
    unfold cI
    dsimp only
    simp only [n1, n2, n3, n4, n5, if_false]
theorem rI_app {e : Nat} {code l : List Ins} {c : Ins} (h : c.2.1 = unk ∨ c.2.1 ≤ code.length ∨ ¬ (c.1 = 13 ∨ c.1 = 14 ∨ c.1 = 18 ∨ c.1 = 23 ∨ c.1 = 24)) : rI e (code ++ l) c = rI e code c := by
  obtain ⟨o, j, r, a, p, x, y⟩ := c
  have h : j = unk ∨ j ≤ code.length ∨ ¬ (o = 13 ∨ o = 14 ∨ o = 18 ∨ o = 23 ∨ o = 24) := h
  by_cases q : j = unk ∨ j ≤ code.length
  · unfold rI
    dsimp only
    rw [tgR_app q]
  · have q : ¬ (o = 13 ∨ o = 14 ∨ o = 18 ∨ o = 23 ∨ o = 24) := by omega
    have n1 : ¬ o = 13 := by omega
    have n2 : ¬ o = 14 := by omega
    have n3 : ¬ o = 18 := by omega
    have n4 : ¬ o = 23 := by omega
    have n5 : ¬ o = 24 := by omega
    unfold rI
    dsimp only
    simp only [n1, n2, n3, n4, n5, if_false]
theorem flat_congr {α β : Type} {f g : α → List β} : ∀ {l : List α}, (∀ x ∈ l, f x = g x) → l.flatMap f = l.flatMap g
  | [], _ => rfl
  | a :: l, h => by
    rw [List.flatMap_cons, List.flatMap_cons, h a List.mem_cons_self, flat_congr (fun x hx => h x (List.mem_cons_of_mem _ hx))]
theorem getD_app {code : List Ins} {c d : Ins} {m : Nat} (h : m < code.length) : (code ++ [c]).getD m d = code.getD m d := by
  rw [List.getD_eq_getElem?_getD, List.getD_eq_getElem?_getD, List.getElem?_append_left h]
theorem getD_last {code : List Ins} {c d : Ins} : (code ++ [c]).getD code.length d = c := by
  rw [List.getD_eq_getElem?_getD, List.getElem?_append_right (Nat.le_refl _), Nat.sub_self]
  rfl
theorem getD_mem {code : List Ins} {d : Ins} {m : Nat} (h : m < code.length) : code.getD m d ∈ code := by
  rw [List.getD_eq_getElem?_getD, List.getElem?_eq_getElem h]
  exact List.getElem_mem h
/-- one instruction more -/
theorem CA_app {code : List Ins} {c : Ins} (hw : wfC code) (hc : c.2.1 = unk ∨ c.2.1 ≤ code.length ∨ ¬ (c.1 = 13 ∨ c.1 = 14 ∨ c.1 = 18 ∨ c.1 = 23 ∨ c.1 = 24)) : CA (code ++ [c]) = CA code ++ cI code (posC code code.length) c := by
  unfold CA
  rw [List.length_append, show code.length + [c].length = code.length + 1 from rfl, List.range_succ, List.flatMap_append, List.flatMap_cons, List.flatMap_nil, List.append_nil, getD_last, posC_app (Nat.le_refl _), cI_app hc]
  congr 1
  refine flat_congr (fun m hm => ?_)
  have hm := List.mem_range.mp hm
  rw [getD_app hm, posC_app (by omega), cI_app (hw _ (getD_mem hm))]
theorem RA_app {e : Nat} {code : List Ins} {c : Ins} (hw : wfC code) (hc : c.2.1 = unk ∨ c.2.1 ≤ code.length ∨ ¬ (c.1 = 13 ∨ c.1 = 14 ∨ c.1 = 18 ∨ c.1 = 23 ∨ c.1 = 24)) : RA e (code ++ [c]) = RA e code ++ rI e code c := by
  unfold RA
  rw [List.length_append, show code.length + [c].length = code.length + 1 from rfl, List.range_succ, List.flatMap_append, List.flatMap_cons, List.flatMap_nil, List.append_nil, getD_last, rI_app hc]
  congr 1
  refine flat_congr (fun m hm => ?_)
  have hm := List.mem_range.mp hm
  rw [getD_app hm, rI_app (hw _ (getD_mem hm))]
theorem wfC_app {code : List Ins} {c : Ins} (hw : wfC code) (hc : c.2.1 = unk ∨ c.2.1 ≤ code.length + 1 ∨ ¬ (c.1 = 13 ∨ c.1 = 14 ∨ c.1 = 18 ∨ c.1 = 23 ∨ c.1 = 24)) : wfC (code ++ [c]) := by
  intro d hd
  rw [List.length_append]
  show _ ∨ d.2.1 ≤ code.length + 1 ∨ _
  obtain h | h := List.mem_append.mp hd
  · have := hw d h
    omega
  · rw [List.mem_singleton.mp h]
    exact hc
theorem posC_len {code : List Ins} : posC code code.length = (code.map clen).sum := by
  unfold posC
  rw [List.take_length]
theorem cI_len {code : List Ins} {own : Nat} {c : Ins} : (cI code own c).length = clen c := by
  obtain ⟨o, j, r, a, p, x, y⟩ := c
  unfold cI clen
  dsimp only
  by_cases h0 : o ≤ 26
  · have hv : o = 0 ∨ o = 1 ∨ o = 2 ∨ o = 3 ∨ o = 4 ∨ o = 5 ∨ o = 6 ∨ o = 7 ∨ o = 8 ∨ o = 9 ∨ o = 10 ∨ o = 11 ∨ o = 12 ∨ o = 13 ∨ o = 14 ∨ o = 15 ∨ o = 16 ∨ o = 17 ∨ o = 18 ∨ o = 19 ∨ o = 20 ∨ o = 21 ∨ o = 22 ∨ o = 23 ∨ o = 24 ∨ o = 25 ∨ o = 26 := by omega
    rcases hv with rfl | rfl | rfl | rfl | rfl | rfl | rfl | rfl | rfl | rfl | rfl | rfl | rfl | rfl | rfl | rfl | rfl | rfl | rfl | rfl | rfl | rfl | rfl | rfl | rfl | rfl | rfl
    all_goals first
      | rfl
      | (simp only [Nat.reduceEqDiff, if_false, if_true]; split <;> first | rfl | (split <;> rfl))
  · simp only [show ¬ o = 0 by omega, show ¬ o = 1 by omega, show ¬ o = 2 by omega, show ¬ o = 3 by omega, show ¬ o = 4 by omega, show ¬ o = 5 by omega, show ¬ o = 6 by omega, show ¬ o = 7 by omega, show ¬ o = 8 by omega, show ¬ o = 9 by omega, show ¬ o = 10 by omega, show ¬ o = 11 by omega, show ¬ o = 12 by omega, show ¬ o = 13 by omega, show ¬ o = 14 by omega, show ¬ o = 15 by omega, show ¬ o = 16 by omega, show ¬ o = 17 by omega, show ¬ o = 18 by omega, show ¬ o = 19 by omega, show ¬ o = 20 by omega, show ¬ o = 21 by omega, show ¬ o = 22 by omega, show ¬ o = 23 by omega, show ¬ o = 24 by omega, show ¬ o = 25 by omega, show ¬ o = 26 by omega, if_false, or_self]
    rfl
end
-- ### 89l.pure.lean.txt
section
/-! ===== PURE: what waits (the reference) ===== -/
def okS (k : Nat) : Prop := isSg k ∨ k = 317 ∨ k = 289 ∨ k = 316 ∨ k = 318
theorem lex_sg {b : Nat → Nat} {n p : Nat} (h : 33 ≤ (lex b n p).1) : okS (lex b n p).1 := by
  revert h
  unfold lex
  generalize sk b n p = a
  unfold tkA
  by_cases c : a < n
  · rw [if_pos c]
    by_cases cl : 97 ≤ b a ∧ b a ≤ 122
    · rw [if_pos cl]
      unfold tkW
      split
      · exact fun h => absurd h (by show ¬ 33 ≤ 3; omega)
      · exact fun h => absurd h (by show ¬ 33 ≤ 1; omega)
    · rw [if_neg cl]
      by_cases cd : 48 ≤ b a ∧ b a ≤ 57
      · rw [if_pos cd]
        unfold tkN
        split
        · exact fun h => absurd h (by show ¬ 33 ≤ 2; omega)
        · exact fun h => absurd h (by show ¬ 33 ≤ 1; omega)
      · rw [if_neg cd]
        unfold tkS
        split
        · rename_i q
          have := eqB_iff.mp q.1
          unfold isEq at this
          intro _
          show okS (b a + 256)
          unfold okS
          omega
        · split
          · rename_i q
            exact fun _ => Or.inl (sgB_iff.mp q)
          · exact fun h => absurd h (by show ¬ 33 ≤ 1; omega)
  · rw [if_neg c]
    exact fun h => absurd h (by show ¬ 33 ≤ 0; omega)
theorem TL_sg {b : Nat → Nat} {n i : Nat} (hi : i < (TL b n).length) (h : 33 ≤ (TL b n)[i].1) : okS (TL b n)[i].1 := by
  cases i with
  | zero =>
    have e : (TL b n)[0] = lex b n 0 := by
      have : tks b n (n + 1) 0 = if (lex b n 0).1 ≤ 1 then [lex b n 0] else lex b n 0 :: tks b n n (lex b n 0).2.2.2.2 := rfl
      simp only [TL, this]
      split <;> rfl
    rw [e] at h ⊢
    exact lex_sg h
  | succ i =>
    have e := (TL_ok (i := i) (by omega)).2.2 hi
    rw [e] at h ⊢
    exact lex_sg h
/-- a sign's level; 9: none -/
def lv (k : Nat) : Nat := if k = 38 ∨ k = 124 then 0 else if k = 317 ∨ k = 289 ∨ k = 60 ∨ k = 316 ∨ k = 62 ∨ k = 318 then 1 else if k = 43 ∨ k = 45 then 2 else if k = 42 ∨ k = 47 ∨ k = 37 then 3 else 9
def lvI (k : Nat) : Int32 := if lv k = 9 then -Int32.ofNat 1 else Int32.ofNat (lv k)
/-- kind, what, how many, where; a name and where it stands -/
abbrev Wt : Type := Nat × Nat × Nat × Nat × Int64 × Nat
def rW (s : mS) (W : List Wt) : Prop := s.1 44 = Int32.ofNat W.length ∧ W.length ≤ 80 ∧ ∀ i (hi : i < W.length), s.2.2.1 38 i = Int32.ofNat W[i].1 ∧ s.2.2.1 39 i = Int32.ofNat W[i].2.1 ∧ s.2.2.1 40 i = Int32.ofNat W[i].2.2.1 ∧ s.2.2.1 41 i = Int32.ofNat W[i].2.2.2.1 ∧ W[i].1 ≤ 8 ∧ (6 ≤ W[i].1 → s.2.2.2 42 i = W[i].2.2.2.2.1 ∧ s.2.2.1 43 i = Int32.ofNat W[i].2.2.2.2.2)
abbrev fW (s s' : mS) : Prop := mfr (fun q => q = 44) (fun _ => False) (fun q => q = 38 ∨ q = 39 ∨ q = 40 ∨ q = 41 ∨ q = 43) (fun q => q = 42) s s'
section WAI
variable {N : Nat} {X : Nat → Option zz_C} {t : cS} {s : mS} {e : Nat} {L : List R5}
theorem r_levelOf {k : Nat} (h : okS k) : mf_282 N (Int32.ofNat (sgv k)) s = some (s, some (.int (lvI k))) := by
  unfold okS isSg at h
  rcases h with (rfl | rfl | rfl | rfl | rfl | rfl | rfl | rfl | rfl | rfl | rfl | rfl | rfl | rfl | rfl | rfl | rfl | rfl | rfl) | rfl | rfl | rfl | rfl
  all_goals (simp only [sgv, lvI, lv, Nat.reduceEqDiff, Nat.reduceLT, if_true, if_false, or_self, or_false, false_or, or_true, true_or, reduceIte]; repeat ((first | unfold mf_282 | unfold mf_282_0 | unfold mf_282_6 | unfold mf_282_12 | unfold mf_282_16 | unfold mf_282_23 | unfold mf_282_29 | unfold mf_282_35 | unfold mf_282_39 | unfold mf_282_45 | unfold mf_282_51 | unfold mf_282_55 | unfold mf_282_61 | unfold mf_282_67 | unfold mf_282_73 | unfold mf_282_77 | unfold mf_282_78); try simp (disch := omega) only [ev_S, ev_P, ↓reduceIte, Nat.reduceEqDiff, Nat.reduceLeDiff, Nat.reduceAdd, Nat.reduceMul, Nat.reduceSub, reduceCtorEq, l32_0, l32_1, l32_2, l32_3, l32_4, l32_37, l32_38, l32_42, l32_43, l32_45, l32_47, l32_60, l32_62, l32_124, l32_256, l32_256]))
theorem c_levelOf {k : Nat} (h : k < 33 ∨ okS k) : cf_187 N X (Int32.ofNat k) t = some (t, .inl (some (.int (lvI k)))) := by
  rcases h with h | h
  · have n1 : lv k = 9 := by
      unfold lv
      rw [if_neg (by omega), if_neg (by omega), if_neg (by omega), if_neg (by omega)]
    unfold lvI
    rw [if_pos n1]
    repeat ((first | unfold cf_187 | unfold cf_187_0 | unfold cf_187_116 | unfold cf_187_118 | unfold cf_187_120 | unfold cf_187_122 | unfold cf_187_124); try simp (disch := omega) only [ev_S, ev_C, ↓reduceIte, Nat.reduceEqDiff, Nat.reduceLeDiff, Nat.reduceAdd, Nat.reduceMul, Nat.reduceSub, reduceCtorEq, l32_0, l32_1, l32_2, l32_3, l32_4, l32_37, l32_38, l32_42, l32_43, l32_45, l32_47, l32_60, l32_62, l32_124, l32_289, l32_316, l32_317, l32_318, l32_289, l32_316, l32_317, l32_318, l32_124])
  · unfold okS isSg at h
    rcases h with (rfl | rfl | rfl | rfl | rfl | rfl | rfl | rfl | rfl | rfl | rfl | rfl | rfl | rfl | rfl | rfl | rfl | rfl | rfl) | rfl | rfl | rfl | rfl
    all_goals (simp only [lvI, lv, Nat.reduceEqDiff, if_true, if_false, or_self, or_false, false_or, or_true, true_or, reduceIte]; repeat ((first | unfold cf_187 | unfold cf_187_0 | unfold cf_187_116 | unfold cf_187_118 | unfold cf_187_120 | unfold cf_187_122 | unfold cf_187_124); try simp (disch := omega) only [ev_S, ev_C, ↓reduceIte, Nat.reduceEqDiff, Nat.reduceLeDiff, Nat.reduceAdd, Nat.reduceMul, Nat.reduceSub, reduceCtorEq, l32_0, l32_1, l32_2, l32_3, l32_4, l32_37, l32_38, l32_42, l32_43, l32_45, l32_47, l32_60, l32_62, l32_124, l32_289, l32_316, l32_317, l32_318, l32_289, l32_316, l32_317, l32_318, l32_124, l32_123, l32_125]))
theorem r_wait {k a p : Nat} {W : List Wt} (h : rW s W) (hl : W.length < 80) (hk : k < 6) : ∃ s', mf_281 N (Int32.ofNat k) (Int32.ofNat a) (Int32.ofNat p) s = some (s', none) ∧ rW s' (W ++ [(k, a, 0, p, 0, 0)]) ∧ fW s s' := by
  obtain ⟨h1, h2, h3⟩ := h
  have ll : (W ++ [(k, a, 0, p, (0 : Int64), 0)]).length = W.length + 1 := List.length_append
  refine ⟨mI (mA (mA (mA (mA s 38 (upd (s.2.2.1 38) W.length (Int32.ofNat k))) 39 (upd (s.2.2.1 39) W.length (Int32.ofNat a))) 40 (upd (s.2.2.1 40) W.length (Int32.ofNat 0))) 41 (upd (s.2.2.1 41) W.length (Int32.ofNat p))) 44 (Int32.ofNat (W.length + 1)), ?_, ⟨by rw [ll]; rfl, by rw [ll]; omega, fun i hi => ?_⟩, ⟨fun q r => if_neg r, fun _ _ => rfl, fun q r => ?_, fun _ _ => rfl⟩⟩
  · repeat ((first | unfold mf_281 | unfold mf_281_0); try simp (disch := omega) only [ev_S, ev_P, ↓reduceIte, Nat.reduceEqDiff, Nat.reduceLeDiff, Nat.reduceAdd, Nat.reduceMul, Nat.reduceSub, reduceCtorEq, l32_0, l32_1, l32_2, l32_3, l32_4, l32_38, l32_39, l32_40, l32_41, l32_44, h1])
  · rw [ll] at hi
    by_cases c : i < W.length
    · rw [List.getElem_append_left c]
      obtain ⟨q1, q2, q3, q4, q5, q6⟩ := h3 i c
      exact ⟨(upd_n (by omega)).trans q1, (upd_n (by omega)).trans q2, (upd_n (by omega)).trans q3, (upd_n (by omega)).trans q4, q5, q6⟩
    · have ei : i = W.length := by omega
      subst ei
      rw [List.getElem_append_right (Nat.le_refl _)]
      simp only [Nat.sub_self, List.getElem_cons_zero]
      exact ⟨if_pos rfl, if_pos rfl, if_pos rfl, if_pos rfl, by omega, fun q => by omega⟩
  · show (if q = 41 then _ else if q = 40 then _ else if q = 39 then _ else if q = 38 then _ else s.2.2.1 q) = _
    rw [if_neg (by omega), if_neg (by omega), if_neg (by omega), if_neg (by omega)]
theorem r_isW {k : Nat} {W : List Wt} {w : Wt} (h : rW s (W ++ [w])) (hk : k ≤ 8) : mf_283 N (Int32.ofNat k) s = some (s, some (.int (if w.1 = k then 1 else 0))) := by
  obtain ⟨h1, h2, h3⟩ := h
  have ll : (W ++ [w]).length = W.length + 1 := List.length_append
  rw [ll] at h1 h2
  obtain ⟨q1, q2, q3, q4, q5, q6⟩ := h3 W.length (by omega)
  rw [List.getElem_append_right (Nat.le_refl _)] at q1 q5
  simp only [Nat.sub_self, List.getElem_cons_zero] at q1 q5
  by_cases c : w.1 = k
  · rw [if_pos c]
    rw [c] at q1
    repeat ((first | unfold mf_283 | unfold mf_283_0 | unfold mf_283_7 | unfold mf_283_22 | unfold mf_283_26 | unfold mf_283_27); try simp (disch := omega) only [ev_S, ev_P, ↓reduceIte, Nat.reduceEqDiff, Nat.reduceLeDiff, Nat.reduceAdd, Nat.reduceMul, Nat.reduceSub, reduceCtorEq, l32_0, l32_1, l32_2, l32_3, l32_4, l32_38, l32_44, h1, q1])
  · rw [if_neg c]
    repeat ((first | unfold mf_283 | unfold mf_283_0 | unfold mf_283_7 | unfold mf_283_22 | unfold mf_283_26 | unfold mf_283_27); try simp (disch := omega) only [ev_S, ev_P, ↓reduceIte, Nat.reduceEqDiff, Nat.reduceLeDiff, Nat.reduceAdd, Nat.reduceMul, Nat.reduceSub, reduceCtorEq, l32_0, l32_1, l32_2, l32_3, l32_4, l32_38, l32_44, h1, q1, c])
theorem r_isW0 {k : Nat} (h : rW s []) : mf_283 N (Int32.ofNat k) s = some (s, some (.int 0)) := by
  have h1 : s.1 44 = Int32.ofNat 0 := h.1
  repeat ((first | unfold mf_283 | unfold mf_283_0 | unfold mf_283_7 | unfold mf_283_22 | unfold mf_283_26 | unfold mf_283_27); try simp (disch := omega) only [ev_S, ev_P, ↓reduceIte, Nat.reduceEqDiff, Nat.reduceLeDiff, Nat.reduceAdd, Nat.reduceMul, Nat.reduceSub, reduceCtorEq, l32_0, l32_1, l32_2, l32_3, l32_4, l32_38, l32_44, h1])
theorem rW.pop {W : List Wt} {w : Wt} (h : rW s (W ++ [w])) : rW (mI s 44 (Int32.ofNat W.length)) W := by
  obtain ⟨h1, h2, h3⟩ := h
  have ll : (W ++ [w]).length = W.length + 1 := List.length_append
  rw [ll] at h1 h2
  refine ⟨rfl, by omega, fun i hi => ?_⟩
  have := h3 i (by omega)
  rw [List.getElem_append_left hi] at this
  exact this
/-- a sign that waits for what is behind it -/
abbrev bt (z : Nat × Nat) : Wt := (1, sgv z.1, 0, z.2, 0, 0)
abbrev od (z : Nat × Nat) : R5 := (5, Int32.ofNat (sgv z.1), 0, 0, Int32.ofNat z.2)
/-- reduce's stop: nothing of that level waits on top -/
def stp (l : Nat) (W : List Wt) : Prop := W = [] ∨ ∃ W' w, W = W' ++ [w] ∧ (¬ w.1 = 1 ∨ ∃ z : Nat × Nat, w = bt z ∧ okS z.1 ∧ lv z.1 < l)
theorem rCd.pop {x : Int32} (h : rCd s e L) : rCd (mI s 44 x) e L := h
theorem r_reduce {l : Nat} {W : List Wt} (hl : l ≤ 3) (hs : stp l W) : ∀ (Z : List (Nat × Nat)) (q : Nat) (s : mS) (L : List R5), rW s (W ++ Z.map bt) → rCd s e L → L.length + Z.length < 3900 → (∀ z ∈ Z, okS z.1 ∧ l ≤ lv z.1 ∧ lv z.1 ≤ 3) → ∃ s', mf_284_L1 N (q + (Z.length + 1)) 0 (Int32.ofNat l) s = some (s', none) ∧ rW s' W ∧ rCd s' e (L ++ Z.reverse.map od) ∧ s'.1 44 = Int32.ofNat W.length ∧ (∀ q, ¬ (q = 44 ∨ q = 28) → s'.1 q = s.1 q) ∧ fO e (mI s 44 0) (mI s' 44 0) := by
  have e0 : ∀ q x s, mf_284_L1 N (q + 1) 0 x s = mf_284_0 N (mf_284_L1 N q) x s := fun _ _ _ => rfl
  intro Z
  induction hZ : Z.length generalizing Z with
  | zero =>
    intro q s L hW hL hn hz
    have : Z = [] := List.length_eq_zero_iff.mp hZ
    subst this
    have hW : rW s (W ++ []) := hW
    rw [List.append_nil] at hW
    refine ⟨s, ?_, hW, by show rCd s e (L ++ []); rw [List.append_nil]; exact hL, hW.1, fun _ _ => rfl, fO.rf⟩
    show mf_284_L1 N (q + 1) 0 (Int32.ofNat l) s = _
    rw [e0]
    rcases hs with rfl | ⟨W', w, rfl, hw⟩
    · have i0 := r_isW0 (N := N) (k := 1) hW
      repeat ((first | unfold mf_284 | unfold mf_284_0 | unfold mf_284_5 | unfold mf_284_8 | unfold mf_284_22 | unfold mf_284_26 | unfold mf_284_60 | unfold mf_284_64); try simp (disch := omega) only [ev_S, ev_P, ↓reduceIte, Nat.reduceEqDiff, Nat.reduceLeDiff, Nat.reduceAdd, Nat.reduceMul, Nat.reduceSub, reduceCtorEq, l32_0, l32_1, l32_2, l32_3, l32_4, l32_5, l32_39, l32_41, l32_44, i0])
    · have i0 := r_isW (N := N) (k := 1) hW (by decide)
      rcases hw with hw | ⟨z, rfl, hz1, hz2⟩
      · rw [if_neg hw] at i0
        repeat ((first | unfold mf_284 | unfold mf_284_0 | unfold mf_284_5 | unfold mf_284_8 | unfold mf_284_22 | unfold mf_284_26 | unfold mf_284_60 | unfold mf_284_64); try simp (disch := omega) only [ev_S, ev_P, ↓reduceIte, Nat.reduceEqDiff, Nat.reduceLeDiff, Nat.reduceAdd, Nat.reduceMul, Nat.reduceSub, reduceCtorEq, l32_0, l32_1, l32_2, l32_3, l32_4, l32_5, l32_39, l32_41, l32_44, i0])
      · rw [if_pos rfl] at i0
        obtain ⟨h1, h2, h3⟩ := hW
        have ll : (W' ++ [bt z]).length = W'.length + 1 := List.length_append
        rw [ll] at h1 h2
        obtain ⟨q1, q2, q3, q4, q5, q6⟩ := h3 W'.length (by omega)
        rw [List.getElem_append_right (Nat.le_refl _)] at q2
        simp only [Nat.sub_self, List.getElem_cons_zero] at q2
        have lo := r_levelOf (N := N) (s := s) hz1
        have el : lvI z.1 = Int32.ofNat (lv z.1) := if_neg (by omega)
        rw [el] at lo
        repeat ((first | unfold mf_284 | unfold mf_284_0 | unfold mf_284_5 | unfold mf_284_8 | unfold mf_284_22 | unfold mf_284_26 | unfold mf_284_60 | unfold mf_284_64); try simp (disch := omega) only [ev_S, ev_P, ↓reduceIte, Nat.reduceEqDiff, Nat.reduceLeDiff, Nat.reduceAdd, Nat.reduceMul, Nat.reduceSub, reduceCtorEq, l32_0, l32_1, l32_2, l32_3, l32_4, l32_5, l32_39, l32_41, l32_44, i0, h1, q2, lo])
  | succ m ih =>
    intro q s L hW hL hn hz
    obtain ⟨Z', z, rfl⟩ : ∃ Z' z, Z = Z' ++ [z] := by
      refine ⟨Z.dropLast, Z.getLast (fun q => by rw [q] at hZ; cases hZ), (List.dropLast_concat_getLast _).symm⟩
    have hZ' : Z'.length = m := by
      rw [List.length_append] at hZ
      exact Nat.succ.inj hZ
    rw [List.map_append, ← List.append_assoc] at hW
    have hW : rW s ((W ++ Z'.map bt) ++ [bt z]) := hW
    obtain ⟨z1, z2, z3⟩ := hz z (List.mem_append_right _ (List.mem_singleton.mpr rfl))
    have i0 := r_isW (N := N) (k := 1) hW (by decide)
    rw [if_pos rfl] at i0
    have hW' := hW
    obtain ⟨h1, h2, h3⟩ := hW'
    have ll : ((W ++ Z'.map bt) ++ [bt z]).length = (W ++ Z'.map bt).length + 1 := List.length_append
    rw [ll] at h1 h2
    obtain ⟨q1, q2, q3, q4, q5, q6⟩ := h3 (W ++ Z'.map bt).length (by omega)
    rw [List.getElem_append_right (Nat.le_refl _)] at q2 q4
    simp only [Nat.sub_self, List.getElem_cons_zero] at q2 q4
    have lo := r_levelOf (N := N) (s := s) z1
    have el : lvI z.1 = Int32.ofNat (lv z.1) := if_neg (by omega)
    rw [el] at lo
    obtain ⟨s1, a1, a2, a3⟩ := r_order (N := N) (x1 := Int32.ofNat 5) (x2 := Int32.ofNat (sgv z.1)) (x3 := Int32.ofNat 0) (x4 := Int32.ofNat z.2) (rCd.pop (x := Int32.ofNat (W ++ Z'.map bt).length) hL) (by omega)
    have b0 : rW s1 (W ++ Z'.map bt) := by
      have hp := hW.pop
      obtain ⟨p1, p2, p3⟩ := hp
      refine ⟨by rw [a3.1 44 (by decide)]; exact p1, p2, fun i hi => ?_⟩
      obtain ⟨y1, y2, y3, y4, y5, y6⟩ := p3 i hi
      refine ⟨by rw [a3.2.2.1 38 (by omega)]; exact y1, by rw [a3.2.2.1 39 (by omega)]; exact y2, by rw [a3.2.2.1 40 (by omega)]; exact y3, by rw [a3.2.2.1 41 (by omega)]; exact y4, y5, fun z => ?_⟩
      rw [a3.2.2.2.1 42, a3.2.2.1 43 (by omega)]
      exact y6 z
    obtain ⟨s', c1, c2, c3, c4, c5, c6⟩ := ih Z' hZ' q s1 (L ++ [od z]) b0 a2 (by rw [List.length_append]; show L.length + 1 + m < 3900; omega) (fun y hy => hz y (List.mem_append_left _ hy))
    refine ⟨s', ?_, c2, ?_, c4, fun q r => (c5 q r).trans ?_, ?_⟩
    · rw [← c1, ← Nat.add_assoc, e0]
      unfold mf_284_0 mf_284_5 mf_284_8 mf_284_22 mf_284_26 mf_284_60
      simp (disch := omega) only [ev_S, ev_P, ↓reduceIte, Nat.reduceEqDiff, Nat.reduceLeDiff, Nat.reduceAdd, Nat.reduceMul, Nat.reduceSub, reduceCtorEq, l32_0, l32_1, l32_2, l32_3, l32_4, l32_5, l32_6, l32_7, l32_8, l32_9, l32_10, i0, h1, q2, q4, lo, a1]
    · rw [List.reverse_append, List.map_append]
      rw [List.append_assoc] at c3
      exact c3
    · rw [a3.1 q (fun z => r (Or.inr z))]
      exact if_neg (fun z => r (Or.inl z))
    · refine fO.tr (s1 := mI s1 44 0) ⟨fun q r => ?_, a3.2.1, a3.2.2.1, a3.2.2.2.1, a3.2.2.2.2⟩ c6
      show (if q = 44 then _ else s1.1 q) = (if q = 44 then _ else s.1 q)
      split
      · rfl
      · rename_i z
        rw [a3.1 q r]
        exact if_neg z
end WAI
end
-- ### 89m.pure.lean.txt
section
/-! ===== PURE: a variable is named (both sides) ===== -/
/-- the function's variables -/
def VR (vs : List (List Nat)) (t : cS) (s : mS) : Prop := vs.length ≤ 14 ∧ kI t 2 4 = Int32.ofNat vs.length ∧ (kB t 7).1 = 14 ∧ s.1 22 = Int32.ofNat vs.length ∧ ∀ i (hi : i < vs.length), (kB t 7).2 i = Int64.ofNat (evB 32 vs[i]) ∧ s.2.2.2 21 i = Int64.ofNat (evB 27 vs[i]) ∧ okL vs[i] ∧ vs[i].length ≤ 8
/-- where a list has it -/
theorem fnd (vs : List (List Nat)) (ls : List Nat) : ∃ m, m ≤ vs.length ∧ (∀ j (hj : j < vs.length), j < m → ¬ vs[j] = ls) ∧ (∀ hm : m < vs.length, vs[m] = ls) := by
  induction vs with
  | nil => exact ⟨0, Nat.le_refl _, fun j hj => absurd hj (Nat.not_lt_zero _), fun hm => absurd hm (Nat.not_lt_zero _)⟩
  | cons a vs ih =>
    by_cases c : a = ls
    · exact ⟨0, Nat.zero_le _, fun j _ hj => absurd hj (Nat.not_lt_zero _), fun _ => c⟩
    · obtain ⟨m, h1, h2, h3⟩ := ih
      refine ⟨m + 1, Nat.succ_le_succ h1, fun j hj hjm => ?_, fun hm => h3 (Nat.lt_of_succ_lt_succ hm)⟩
      cases j with
      | zero => exact c
      | succ j => exact h2 j (Nat.lt_of_succ_lt_succ hj) (by omega)
theorem evB_one {B : Nat} (hB : 27 ≤ B) {l : List Nat} (h : okL l) : (evB B l ≤ 8 ∧ 1 ≤ evB B l) ↔ ∃ d, l = [d] ∧ 1 ≤ d ∧ d ≤ 8 := by
  constructor
  · intro q
    match l, h, q with
    | [], h, q =>
      have q2 : 1 ≤ 0 := q.2
      omega
    | [d], h, q =>
      have e : evB B [d] = d := by
        show B * 0 + d = d
        omega
      rw [e] at q
      exact ⟨d, rfl, q.2, q.1⟩
    | d :: d' :: r, h, q =>
      have h1 := h d' (List.mem_cons_of_mem _ List.mem_cons_self)
      have e : evB B (d :: d' :: r) = B * (B * evB B r + d') + d := rfl
      rw [e] at q
      have : B * 1 ≤ B * (B * evB B r + d') := Nat.mul_le_mul_left _ (by omega)
      omega
  · rintro ⟨d, rfl, h1, h2⟩
    have e : evB B [d] = d := by
      show B * 0 + d = d
      omega
    rw [e]
    exact ⟨h2, h1⟩
theorem l64_8 : (8 : Int64) = Int64.ofNat 8 := rfl
theorem lg_lt0 {a b : Nat} (ha : a < 9223372036854775808) (hb : b < 9223372036854775808) : (lg_cmp (Int64.ofNat a) (Int64.ofNat b) < Int32.ofNat 0) = (a < b) := by
  unfold lg_cmp
  apply propext
  by_cases c : b < a
  · rw [if_pos (show Int64.ofNat a > Int64.ofNat b from (i64lt hb ha).mpr c)]
    exact ⟨fun q => absurd q (by decide), fun q => by omega⟩
  · rw [if_neg (fun q => c ((i64lt hb ha).mp q))]
    by_cases d : a = b
    · rw [if_pos (by rw [d])]
      exact ⟨fun q => absurd q (by decide), fun q => by omega⟩
    · rw [if_neg (fun q => d ((i64eq ha hb).mp q))]
      exact ⟨fun _ => by omega, fun _ => by decide⟩
theorem lg_gt0 {a b : Nat} (ha : a < 9223372036854775808) (hb : b < 9223372036854775808) : (Int32.ofNat 0 < lg_cmp (Int64.ofNat a) (Int64.ofNat b)) = (b < a) := by
  unfold lg_cmp
  apply propext
  by_cases c : b < a
  · rw [if_pos (show Int64.ofNat a > Int64.ofNat b from (i64lt hb ha).mpr c)]
    exact ⟨fun _ => c, fun _ => by decide⟩
  · rw [if_neg (fun q => c ((i64lt hb ha).mp q))]
    refine ⟨fun q => ?_, fun q => absurd q c⟩
    split at q
    · exact absurd q (by decide)
    · exact absurd q (by decide)
section VAR
variable {N : Nat} {X : Nat → Option zz_C} {t : cS} {s : mS} {b : Nat → Nat} {n i op : Nat} {vs : List (List Nat)} {ls : List Nat}
/-- a shelf's name -/
def isH (ls : List Nat) : Prop := ∃ d, ls = [d] ∧ 1 ≤ d ∧ d ≤ 8
theorem c_namesShelf (ho : okL ls) (h8 : ls.length ≤ 8) : (isH ls → cf_197 N X (Int64.ofNat (evB 32 ls)) t = some (t, .inl (some (.int 1)))) ∧ (¬ isH ls → cf_197 N X (Int64.ofNat (evB 32 ls)) t = some (t, .inl (some (.int 0)))) := by
  have hv := evB_32 ho h8
  have key := evB_one (B := 32) (by decide) ho
  constructor
  · intro h
    obtain ⟨k1, k2⟩ := key.mpr h
    repeat ((first | unfold cf_197 | unfold cf_197_0 | unfold cf_197_6 | unfold cf_197_14 | unfold cf_197_18 | unfold cf_197_19); try simp (disch := omega) only [ev_S, ev_C, ↓reduceIte, Nat.reduceEqDiff, Nat.reduceLeDiff, Nat.reduceAdd, Nat.reduceMul, Nat.reduceSub, reduceCtorEq, l32_0, l32_1, l32_2, l32_3, l32_4, l32_8, l64_1, l64_8, lg_lt0, lg_gt0])
  · intro h
    have : ¬ (evB 32 ls ≤ 8 ∧ 1 ≤ evB 32 ls) := fun q => h (key.mp q)
    by_cases c : evB 32 ls < 1
    · repeat ((first | unfold cf_197 | unfold cf_197_0 | unfold cf_197_6 | unfold cf_197_14 | unfold cf_197_18 | unfold cf_197_19); try simp (disch := omega) only [ev_S, ev_C, ↓reduceIte, Nat.reduceEqDiff, Nat.reduceLeDiff, Nat.reduceAdd, Nat.reduceMul, Nat.reduceSub, reduceCtorEq, l32_0, l32_1, l32_2, l32_3, l32_4, l32_8, l64_1, l64_8, lg_lt0, lg_gt0])
    · have c2 : 8 < evB 32 ls := by omega
      repeat ((first | unfold cf_197 | unfold cf_197_0 | unfold cf_197_6 | unfold cf_197_14 | unfold cf_197_18 | unfold cf_197_19); try simp (disch := omega) only [ev_S, ev_C, ↓reduceIte, Nat.reduceEqDiff, Nat.reduceLeDiff, Nat.reduceAdd, Nat.reduceMul, Nat.reduceSub, reduceCtorEq, l32_0, l32_1, l32_2, l32_3, l32_4, l32_8, l64_1, l64_8, lg_lt0, lg_gt0])
theorem r_isShelf (ho : okL ls) (h8 : ls.length ≤ 8) : (isH ls → mf_274 N (Int64.ofNat (evB 27 ls)) s = some (s, some (.int 1))) ∧ (¬ isH ls → mf_274 N (Int64.ofNat (evB 27 ls)) s = some (s, some (.int 0))) := by
  have hv := evB_27 ho h8
  have key := evB_one (B := 27) (by decide) ho
  constructor
  · intro h
    obtain ⟨k1, k2⟩ := key.mpr h
    repeat ((first | unfold mf_274 | unfold mf_274_0 | unfold mf_274_6 | unfold mf_274_14 | unfold mf_274_18 | unfold mf_274_19); try simp (disch := omega) only [ev_S, ev_P, ↓reduceIte, Nat.reduceEqDiff, Nat.reduceLeDiff, Nat.reduceAdd, Nat.reduceMul, Nat.reduceSub, reduceCtorEq, l32_0, l32_1, l32_2, l32_3, l32_4, l32_8, l64_1, l64_8, lg_lt0, lg_gt0])
  · intro h
    have : ¬ (evB 27 ls ≤ 8 ∧ 1 ≤ evB 27 ls) := fun q => h (key.mp q)
    by_cases c : evB 27 ls < 1
    · repeat ((first | unfold mf_274 | unfold mf_274_0 | unfold mf_274_6 | unfold mf_274_14 | unfold mf_274_18 | unfold mf_274_19); try simp (disch := omega) only [ev_S, ev_P, ↓reduceIte, Nat.reduceEqDiff, Nat.reduceLeDiff, Nat.reduceAdd, Nat.reduceMul, Nat.reduceSub, reduceCtorEq, l32_0, l32_1, l32_2, l32_3, l32_4, l32_8, l64_1, l64_8, lg_lt0, lg_gt0])
    · have c2 : 8 < evB 27 ls := by omega
      repeat ((first | unfold mf_274 | unfold mf_274_0 | unfold mf_274_6 | unfold mf_274_14 | unfold mf_274_18 | unfold mf_274_19); try simp (disch := omega) only [ev_S, ev_P, ↓reduceIte, Nat.reduceEqDiff, Nat.reduceLeDiff, Nat.reduceAdd, Nat.reduceMul, Nat.reduceSub, reduceCtorEq, l32_0, l32_1, l32_2, l32_3, l32_4, l32_8, l64_1, l64_8, lg_lt0, lg_gt0])
theorem c_varNumber {m : Nat} (hN : 170000 ≤ N) (h : VR vs t s) (ho : okL ls) (h8 : ls.length ≤ 8) (hm : m ≤ vs.length) (h1 : ∀ j (hj : j < vs.length), j < m → ¬ vs[j] = ls) (h2 : ∀ hm : m < vs.length, vs[m] = ls) : cf_196 N X (Int64.ofNat (evB 32 ls)) t = some (t, .inl (some (.int (if m < vs.length then Int32.ofNat m else -1)))) := by
  obtain ⟨a1, a2, a3, a4, a5⟩ := h
  have hv := evB_32 ho h8
  have go : ∀ d j q, j + d = m → cf_196_L2 N X (q + (d + 1)) 0 (Int64.ofNat (evB 32 ls)) (Int32.ofNat j) t = some (t, .inl (some (.int (if m < vs.length then Int32.ofNat m else -1)))) := by
    intro d
    induction d with
    | zero =>
      intro j q hj
      have hj : j = m := hj
      subst hj
      show cf_196_2 N X (cf_196_L2 N X q) (Int64.ofNat (evB 32 ls)) (Int32.ofNat j) t = _
      by_cases c : j < vs.length
      · rw [if_pos c]
        have y := (a5 j c).1
        rw [h2 c] at y
        unfold cf_196_2 cf_196_10 cf_196_21
        simp (disch := omega) only [ev_S, ev_C, ↓reduceIte, Nat.reduceEqDiff, Nat.reduceLeDiff, Nat.reduceAdd, Nat.reduceMul, Nat.reduceSub, reduceCtorEq, l32_0, l32_1, l32_2, l32_3, l32_4, l32_5, l32_6, l32_7, l32_8, l32_9, l32_10, a2, a3, y, lg_eq0]
      · rw [if_neg c]
        unfold cf_196_2 cf_196_29
        simp (disch := omega) only [ev_S, ev_C, ↓reduceIte, Nat.reduceEqDiff, Nat.reduceLeDiff, Nat.reduceAdd, Nat.reduceMul, Nat.reduceSub, reduceCtorEq, l32_0, l32_1, l32_2, l32_3, l32_4, l32_5, l32_6, l32_7, l32_8, l32_9, l32_10, a2]
    | succ d ih =>
      intro j q hj
      have hj1 : j < vs.length := by omega
      obtain ⟨y, -, y2, y3⟩ := a5 j hj1
      have hw := evB_32 y2 y3
      have hne : ¬ evB 32 vs[j] = evB 32 ls := fun e => h1 j hj1 (by omega) (evB_inj (by decide) y2 ho e)
      rw [← ih (j + 1) q (by omega)]
      show cf_196_2 N X (cf_196_L2 N X (q + (d + 1))) (Int64.ofNat (evB 32 ls)) (Int32.ofNat j) t = _
      unfold cf_196_2 cf_196_10 cf_196_23
      simp (disch := omega) only [ev_S, ev_C, ↓reduceIte, Nat.reduceEqDiff, Nat.reduceLeDiff, Nat.reduceAdd, Nat.reduceMul, Nat.reduceSub, reduceCtorEq, l32_0, l32_1, l32_2, l32_3, l32_4, l32_5, l32_6, l32_7, l32_8, l32_9, l32_10, a2, a3, y, lg_eq0, hne]
  have e := go m 0 (N - (m + 1)) (Nat.zero_add _)
  rw [show N - (m + 1) + (m + 1) = N by omega] at e
  exact e
theorem r_varFind {m : Nat} (h : VR vs t s) (ho : okL ls) (h8 : ls.length ≤ 8) (e7 : s.2.1 7 = Int64.ofNat (evB 27 ls)) (hm : m ≤ vs.length) (h1 : ∀ j (hj : j < vs.length), j < m → ¬ vs[j] = ls) (h2 : ∀ hm : m < vs.length, vs[m] = ls) : ∀ d j q, j + d = m → mf_275_L7 N (q + (d + 1)) 0 (Int32.ofNat j) s = mf_275_76 N (Int32.ofNat m) s := by
  obtain ⟨a1, a2, a3, a4, a5⟩ := h
  have hv := evB_27 ho h8
  intro d
  induction d with
  | zero =>
    intro j q hj
    have hj : j = m := hj
    subst hj
    show mf_275_48 N (mf_275_L7 N q) (Int32.ofNat j) s = _
    by_cases c : j < vs.length
    · have y := (a5 j c).2.1
      rw [h2 c] at y
      unfold mf_275_48 mf_275_56
      simp (disch := omega) only [ev_S, ev_P, ↓reduceIte, Nat.reduceEqDiff, Nat.reduceLeDiff, Nat.reduceAdd, Nat.reduceMul, Nat.reduceSub, reduceCtorEq, l32_0, l32_1, l32_2, l32_3, l32_4, l32_5, l32_6, l32_7, l32_8, l32_9, l32_10, a4, y, e7, lg_eq0, l32_14]
    · unfold mf_275_48
      simp (disch := omega) only [ev_S, ev_P, ↓reduceIte, Nat.reduceEqDiff, Nat.reduceLeDiff, Nat.reduceAdd, Nat.reduceMul, Nat.reduceSub, reduceCtorEq, l32_0, l32_1, l32_2, l32_3, l32_4, l32_5, l32_6, l32_7, l32_8, l32_9, l32_10, a4]
  | succ d ih =>
    intro j q hj
    have hj1 : j < vs.length := by omega
    obtain ⟨-, y, y2, y3⟩ := a5 j hj1
    have hw := evB_27 y2 y3
    have hne : ¬ evB 27 vs[j] = evB 27 ls := fun e => h1 j hj1 (by omega) (evB_inj (by decide) y2 ho e)
    rw [← ih (j + 1) q (by omega)]
    show mf_275_48 N (mf_275_L7 N (q + (d + 1))) (Int32.ofNat j) s = _
    unfold mf_275_48 mf_275_56 mf_275_70
    simp (disch := omega) only [ev_S, ev_P, ↓reduceIte, Nat.reduceEqDiff, Nat.reduceLeDiff, Nat.reduceAdd, Nat.reduceMul, Nat.reduceSub, reduceCtorEq, l32_0, l32_1, l32_2, l32_3, l32_4, l32_5, l32_6, l32_7, l32_8, l32_9, l32_10, a4, y, e7, lg_eq0, hne, l32_14]
end VAR
end
-- ### 89n.pure.lean.txt
section
/-! ===== PURE: a variable is named (2) ===== -/
abbrev eV : Nat → Nat → Prop := fun k f => (k = 3 ∧ (f = 4 ∨ f = 5 ∨ f = 6)) ∨ (k = 2 ∧ (f = 2 ∨ f = 4 ∨ f = 10 ∨ f = 11))
abbrev aV : Nat → Prop := fun k => k = 7
abbrev fV (s s' : mS) : Prop := mfr (fun q => q = 5 ∨ q = 6 ∨ q = 8 ∨ q = 9 ∨ q = 10 ∨ q = 11 ∨ q = 22) (fun q => q = 7) (fun _ => False) (fun q => q = 21) s s'
section VAS
variable {N : Nat} {X : Nat → Option zz_C} {t : cS} {s : mS} {b : Nat → Nat} {n i op : Nat} {vs : List (List Nat)}
theorem VR.keep {t' : cS} {s' : mS} (h : VR vs t s) (h1 : kI t' 2 4 = kI t 2 4) (h2 : kB t' 7 = kB t 7) (h3 : s'.1 22 = s.1 22) (h4 : s'.2.2.2 21 = s.2.2.2 21) : VR vs t' s' := by
  obtain ⟨a1, a2, a3, a4, a5⟩ := h
  exact ⟨a1, by rw [h1]; exact a2, by rw [h2]; exact a3, by rw [h3]; exact a4, fun i hi => by rw [h2, h4]; exact a5 i hi⟩
theorem neg_d : ∀ d : Fin 9, Int64.toInt32 (-(Int64.ofNat d.1)) = -Int32.ofNat d.1 := by decide
theorem p_name (hN : 170000 ≤ N) (h : pR b n i op t s) (hV : VR vs t s) : (∃ r t' s' vs', cf_195 N X t = some (t', .inl (some (.int (cv r)))) ∧ mf_275 N s = some (s', some (.int (Int32.ofNat r))) ∧ (∃ hi : i < (TL b n).length, ck (TL b n)[i] = 3) ∧ pR b n (i + 1) op t' s' ∧ VR vs' t' s' ∧ r < 8 + vs'.length ∧ (∃ l, vs' = vs ++ l) ∧ gL eV aV t t' ∧ fV s s') ∨ (∃ t' s', cf_195 N X t = some (t', .inr ()) ∧ mf_275 N s = some (s', some (.int 0)) ∧ pF t' s' ∧ gX eP a0 t t' ∧ fV s s') := by
  obtain ⟨hi, e5, e6, e7, hk, ho, he, hlt, hll⟩ := h.now
  have h9 : s.1 9 = Int32.ofNat 0 := h.2.2.2.2.2.2.2.2.2
  have hw := h.2.2.2.2.2.2.2.1
  have e42 : cf_42 N X t = some (t, .inl (some (.int (Int32.ofNat (ck (TL b n)[i]))))) := by
    repeat ((first | unfold cf_42 | unfold cf_42_0); try simp (disch := omega) only [ev_S, ev_C, ↓reduceIte, Nat.reduceEqDiff, Nat.reduceLeDiff, Nat.reduceAdd, Nat.reduceMul, Nat.reduceSub, reduceCtorEq, l32_0, l32_1, l32_2, l32_3, l32_4, l32_5, e5])
  have isN := r_isName (N := N) hN hw hk
  have kx : ∀ (t' : cS) (g : cS → Option Value → kO), ko_call 5 (some (t', .inr ())) g = some (t', .inr ()) := fun _ _ => rfl
  by_cases c3' : ck (TL b n)[i] = 3
  · obtain ⟨k1, k2⟩ := ck_3.mp c3'
    rw [if_pos c3'] at isN
    rw [c3'] at e42
    obtain ⟨ls, hls⟩ : ∃ ls, ls = (TL b n)[i].2.2.1 := ⟨_, rfl⟩
    rw [← hls] at k2
    have hol : okL ls ∧ ls.length ≤ 8 := by
      rw [hls]
      rcases ho with q | q | ⟨q, -⟩ | ⟨-, q1, q2⟩ | ⟨q, -⟩
      · omega
      · omega
      · omega
      · exact ⟨q1, q2⟩
      · omega
    obtain ⟨okl, l8⟩ := hol
    have ev7 : kL t 3 7 = Int64.ofNat (evB 32 ls) := by
      rw [e7]
      unfold c3
      rw [if_pos k1, ← hls, k2]
    have er7 : s.2.1 7 = Int64.ofNat (evB 27 ls) := by
      rcases hk.2.2 with ⟨q, -⟩ | ⟨q, -⟩ | ⟨q, -⟩ | ⟨-, -, q, -⟩ | ⟨q, -⟩
      · omega
      · omega
      · omega
      · rw [hls]
        exact q
      · omega
    have e244 : cf_244 N X t = some (t, .inl (some (.long (Int64.ofNat (evB 32 ls))))) := by
      repeat ((first | unfold cf_244 | unfold cf_244_0); try simp (disch := omega) only [ev_S, ev_C, ↓reduceIte, Nat.reduceEqDiff, Nat.reduceLeDiff, Nat.reduceAdd, Nat.reduceMul, Nat.reduceSub, reduceCtorEq, l32_0, l32_1, l32_2, l32_3, l32_4, l32_7, ev7])
    obtain ⟨cs1, cs2⟩ := c_namesShelf (N := N) (X := X) (t := t) okl l8
    obtain ⟨rs1, rs2⟩ := r_isShelf (N := N) (s := s) okl l8
    have h2i : ∀ hi : i < (TL b n).length, 2 ≤ (TL b n)[i].1 := fun _ => by show 2 ≤ (TL b n)[i].1; omega
    by_cases hH : isH ls
    · left
      have cs1 := cs1 hH
      have rs1 := rs1 hH
      obtain ⟨d, rfl, d1, d2⟩ := hH
      obtain ⟨t', s', a1, a2, a3, a4, a5⟩ := p_adv (N := N) (X := X) hN h h2i
      have ev1 : evB 32 [d] = d := by
        show 32 * 0 + d = d
        omega
      have ev2 : evB 27 [d] = d := by
        show 27 * 0 + d = d
        omega
      have nd := neg_d ⟨d, by omega⟩
      have nd : Int64.toInt32 (-(Int64.ofNat d)) = -Int32.ofNat d := nd
      rw [ev1] at cs1 e244
      rw [ev2] at rs1 er7
      have ecv : cv (d - 1) = -Int32.ofNat d := by
        unfold cv
        rw [if_pos (by omega), show d - 1 + 1 = d by omega]
      refine ⟨d - 1, t', s', vs, ?_, ?_, ⟨hi, c3'⟩, a3, hV.keep (a4.1 2 4 (by omega)) (a4.2.2.1 7 (fun z => z) (by decide)).2.1 (a5.1 22 (by omega)) (a5.2.2.2 21 (fun z => z)), by omega, ⟨[], (List.append_nil _).symm⟩, a4.mono (by omega) (fun _ z => z.elim), ⟨fun q r => a5.1 q (by omega), a5.2.1, a5.2.2.1, fun q r => a5.2.2.2 q (fun z => z)⟩⟩
      · rw [ecv]
        by_cases cd : d = 1
        · subst cd
          unfold cf_195 cf_195_0 cf_195_8 cf_195_12 cf_195_17 cf_195_21 cf_195_28 cf_195_33 cf_195_36 cf_195_47 cf_195_53 cf_195_57 cf_195_104 cf_195_111
          simp (disch := omega) only [ev_S, ev_C, ↓reduceIte, Nat.reduceEqDiff, Nat.reduceLeDiff, Nat.reduceAdd, Nat.reduceMul, Nat.reduceSub, reduceCtorEq, l32_0, l32_1, l32_2, l32_3, l32_4, l32_5, l32_6, l32_7, l32_8, l32_9, l32_10, e42, c_fine, e244, cs1, nd, a1]
        · have nn : ¬ -Int32.ofNat d = -Int32.ofNat 1 := fun q => cd (by
            have := congrArg Int32.toInt q
            rw [negt (by omega), negt (by omega)] at this
            omega)
          unfold cf_195 cf_195_0 cf_195_8 cf_195_12 cf_195_17 cf_195_21 cf_195_28 cf_195_33 cf_195_36 cf_195_47 cf_195_104 cf_195_111
          simp (disch := omega) only [ev_S, ev_C, ↓reduceIte, Nat.reduceEqDiff, Nat.reduceLeDiff, Nat.reduceAdd, Nat.reduceMul, Nat.reduceSub, reduceCtorEq, l32_0, l32_1, l32_2, l32_3, l32_4, l32_5, l32_6, l32_7, l32_8, l32_9, l32_10, e42, c_fine, e244, cs1, nd, nn, a1]
      · unfold mf_275 mf_275_0 mf_275_9 mf_275_13 mf_275_22 mf_275_29 mf_275_32 mf_275_44
        simp (disch := omega) only [ev_S, ev_P, ↓reduceIte, Nat.reduceEqDiff, Nat.reduceLeDiff, Nat.reduceAdd, Nat.reduceMul, Nat.reduceSub, reduceCtorEq, l32_0, l32_1, l32_2, l32_3, l32_4, l32_5, l32_6, l32_7, l32_8, l32_9, l32_10, h9, isN, er7, rs1, a2, Int64.toInt32_ofNat']
    · have cs2 := cs2 hH
      have rs2 := rs2 hH
      obtain ⟨m, m1, m2, m3⟩ := fnd vs ls
      have cn := c_varNumber (N := N) (X := X) hN hV okl l8 m1 m2 m3
      have rn := r_varFind (N := N) hV okl l8 er7 m1 m2 m3 m 0 (N - (m + 1)) (Nat.zero_add _)
      have hV' := hV
      obtain ⟨v1, v2, v3, v4, v5⟩ := hV'
      rw [show N - (m + 1) + (m + 1) = N by omega] at rn
      have r76 : mf_275 N s = mf_275_76 N (Int32.ofNat m) s := by
        rw [← rn]
        unfold mf_275 mf_275_0 mf_275_9 mf_275_13 mf_275_22 mf_275_29 mf_275_46
        simp (disch := omega) only [ev_S, ev_P, ↓reduceIte, Nat.reduceEqDiff, Nat.reduceLeDiff, Nat.reduceAdd, Nat.reduceMul, Nat.reduceSub, reduceCtorEq, l32_0, l32_1, l32_2, l32_3, l32_4, l32_5, l32_6, l32_7, l32_8, l32_9, l32_10, h9, isN, er7, rs2]
      have ecv : cv (8 + m) = Int32.ofNat m := by
        unfold cv
        rw [if_neg (by omega), Nat.add_sub_cancel_left]
      by_cases cm : m < vs.length
      · left
        rw [if_pos cm] at cn
        have y := (v5 m cm).2.1
        rw [m3 cm] at y
        have eu : vp_updL (s.2.2.2 21) m (Int64.ofNat (evB 27 ls)) = s.2.2.2 21 := by
          funext z
          unfold vp_updL
          split
          · rename_i q
            rw [q, y]
          · rfl
        have es : mB s 21 (s.2.2.2 21) = s := by
          have : (fun q => if q = 21 then s.2.2.2 21 else s.2.2.2 q) = s.2.2.2 := by
            funext q
            split
            · rename_i z
              rw [z]
            · rfl
          show (s.1, s.2.1, s.2.2.1, _) = s
          rw [this]
        obtain ⟨t', s', a1, a2, a3, a4, a5⟩ := p_adv (N := N) (X := X) hN h h2i
        refine ⟨8 + m, t', s', vs, ?_, ?_, ⟨hi, c3'⟩, a3, hV.keep (a4.1 2 4 (by omega)) (a4.2.2.1 7 (fun z => z) (by decide)).2.1 (a5.1 22 (by omega)) (a5.2.2.2 21 (fun z => z)), by omega, ⟨[], (List.append_nil _).symm⟩, a4.mono (by omega) (fun _ z => z.elim), ⟨fun q r => a5.1 q (by omega), a5.2.1, a5.2.2.1, fun q r => a5.2.2.2 q (fun z => z)⟩⟩
        · rw [ecv]
          unfold cf_195 cf_195_0 cf_195_8 cf_195_12 cf_195_17 cf_195_21 cf_195_28 cf_195_33 cf_195_42 cf_195_47 cf_195_104 cf_195_111
          simp (disch := omega) only [ev_S, ev_C, ↓reduceIte, Nat.reduceEqDiff, Nat.reduceLeDiff, Nat.reduceAdd, Nat.reduceMul, Nat.reduceSub, reduceCtorEq, l32_0, l32_1, l32_2, l32_3, l32_4, l32_5, l32_6, l32_7, l32_8, l32_9, l32_10, e42, c_fine, e244, cs2, cn, a1]
        · rw [r76]
          unfold mf_275_76 mf_275_93 mf_275_121 mf_275_125
          simp (disch := omega) only [ev_S, ev_P, ↓reduceIte, Nat.reduceEqDiff, Nat.reduceLeDiff, Nat.reduceAdd, Nat.reduceMul, Nat.reduceSub, reduceCtorEq, l32_0, l32_1, l32_2, l32_3, l32_4, l32_5, l32_6, l32_7, l32_8, l32_9, l32_10, v4, er7, eu, es, a2, l32_14]
      · have em : m = vs.length := by omega
        subst em
        rw [if_neg cm] at cn
        have cn : cf_196 N X (Int64.ofNat (evB 32 ls)) t = some (t, .inl (some (.int (-Int32.ofNat 1)))) := cn
        by_cases c14 : vs.length < 14
        · left
          obtain ⟨t1, ht1⟩ : ∃ t1, t1 = jI (jB t 7 (vp_updL (kB t 7).2 vs.length (Int64.ofNat (evB 32 ls)))) 2 4 (Int32.ofNat (vs.length + 1)) := ⟨_, rfl⟩
          obtain ⟨s1, hs1⟩ : ∃ s1, s1 = mI (mB s 21 (vp_updL (s.2.2.2 21) vs.length (Int64.ofNat (evB 27 ls)))) 22 (Int32.ofNat (vs.length + 1)) := ⟨_, rfl⟩
          have h1 : pR b n i op t1 s1 := by
            rw [ht1, hs1]
            obtain ⟨g1, g2, g3, g4, g5, g6, g7, g8, g9, g10⟩ := h
            exact ⟨g1, g2, g3, g4, g5, g6, g7, g8, g9, g10⟩
          have lv' : (vs ++ [ls]).length = vs.length + 1 := List.length_append
          have V1 : VR (vs ++ [ls]) t1 s1 := by
            rw [ht1, hs1]
            refine ⟨by rw [lv']; omega, by rw [lv']; rfl, v3, by rw [lv']; rfl, fun j hj => ?_⟩
            rw [lv'] at hj
            by_cases cj : j < vs.length
            · rw [List.getElem_append_left cj]
              obtain ⟨y1, y2, y3, y4⟩ := v5 j cj
              exact ⟨(updL_n (by omega)).trans y1, (updL_n (by omega)).trans y2, y3, y4⟩
            · have ej : j = vs.length := by omega
              subst ej
              rw [List.getElem_append_right (Nat.le_refl _)]
              simp only [Nat.sub_self, List.getElem_cons_zero]
              exact ⟨if_pos rfl, if_pos rfl, okl, l8⟩
          have g1 : gL eV aV t t1 := by
            rw [ht1]
            exact ⟨fun k f r => if_neg (by omega), fun _ _ _ => rfl, fun k r1 r2 => ⟨rfl, if_neg r1, rfl⟩, rfl, rfl, Nat.le_refl _, Nat.le_refl _, Nat.le_refl _⟩
          have f1 : fV s s1 := by
            rw [hs1]
            exact ⟨fun q r => if_neg (by omega), fun _ _ => rfl, fun _ _ => rfl, fun q r => if_neg r⟩
          obtain ⟨t', s', a1, a2, a3, a4, a5⟩ := p_adv (N := N) (X := X) hN h1 h2i
          refine ⟨8 + vs.length, t', s', vs ++ [ls], ?_, ?_, ⟨hi, c3'⟩, a3, V1.keep (a4.1 2 4 (by omega)) (a4.2.2.1 7 (fun z => z) (by decide)).2.1 (a5.1 22 (by omega)) (a5.2.2.2 21 (fun z => z)), by rw [lv']; omega, ⟨[ls], rfl⟩, gL.tr (t1 := t1) g1 (a4.mono (by omega) (fun _ z => z.elim)), mfr.tr (s1 := s1) f1 ⟨fun q r => a5.1 q (by omega), a5.2.1, a5.2.2.1, fun q r => a5.2.2.2 q (fun z => z)⟩⟩
          · rw [ecv]
            rw [ht1] at a1
            unfold cf_195 cf_195_0 cf_195_8 cf_195_12 cf_195_17 cf_195_21 cf_195_28 cf_195_33 cf_195_42 cf_195_47 cf_195_53 cf_195_57 cf_195_60 cf_195_70 cf_195_75 cf_195_79 cf_195_104 cf_195_111
            simp (disch := omega) only [ev_S, ev_C, ↓reduceIte, Nat.reduceEqDiff, Nat.reduceLeDiff, Nat.reduceAdd, Nat.reduceMul, Nat.reduceSub, reduceCtorEq, l32_0, l32_1, l32_2, l32_3, l32_4, l32_5, l32_6, l32_7, l32_8, l32_9, l32_10, e42, c_fine, e244, cs2, cn, v2, v3, a1, l32_14]
          · rw [r76]
            rw [hs1] at a2
            unfold mf_275_76 mf_275_93 mf_275_111 mf_275_121 mf_275_125
            simp (disch := omega) only [ev_S, ev_P, ↓reduceIte, Nat.reduceEqDiff, Nat.reduceLeDiff, Nat.reduceAdd, Nat.reduceMul, Nat.reduceSub, reduceCtorEq, l32_0, l32_1, l32_2, l32_3, l32_4, l32_5, l32_6, l32_7, l32_8, l32_9, l32_10, v4, er7, a2, l32_14]
        · right
          have e14 : vs.length = 14 := by omega
          obtain ⟨t', a1, a2, hi', a3, a4⟩ := c_fail (N := N) (X := X) (x := 3) h (by omega)
          rw [if_neg (by omega)] at a3
          have a1' : cf_202 N X (Int32.ofNat 0) (Int32.ofNat 3) t = some (t', .inr ()) := a1
          have e6' := hk.1
          have br := r_breaks (N := N) (s := s) (x := Int32.ofNat 3) (y := Int32.ofNat (TL b n)[i].2.2.2.1) h9
          have ha := TL_at hi
          have h5 := h.2.2.2.2.1
          refine ⟨t', flt s (Int32.ofNat 3) (Int32.ofNat (TL b n)[i].2.2.2.1), ?_, ?_, ⟨3, (TL b n)[i].2.2.2.1, by omega, by omega, by omega, a3, a4, rfl, rfl⟩, a2.mono (by omega) (fun _ z => z.elim), ⟨fun q r => ?_, fun _ _ => rfl, fun _ _ => rfl, fun _ _ => rfl⟩⟩
          · rw [e14] at v2
            unfold cf_195 cf_195_0 cf_195_8 cf_195_12 cf_195_17 cf_195_21 cf_195_28 cf_195_33 cf_195_42 cf_195_47 cf_195_53 cf_195_57 cf_195_60 cf_195_74 cf_195_75
            simp (disch := omega) only [ev_S, ev_C, ↓reduceIte, Nat.reduceEqDiff, Nat.reduceLeDiff, Nat.reduceAdd, Nat.reduceMul, Nat.reduceSub, reduceCtorEq, l32_0, l32_1, l32_2, l32_3, l32_4, l32_5, l32_6, l32_7, l32_8, l32_9, l32_10, e42, c_fine, e244, cs2, cn, v2, a1', kx, l32_14]
          · rw [r76, e14]
            unfold mf_275_76 mf_275_82 mf_275_91
            simp (disch := omega) only [ev_S, ev_P, ↓reduceIte, Nat.reduceEqDiff, Nat.reduceLeDiff, Nat.reduceAdd, Nat.reduceMul, Nat.reduceSub, reduceCtorEq, l32_0, l32_1, l32_2, l32_3, l32_4, l32_5, l32_6, l32_7, l32_8, l32_9, l32_10, e6', br, l32_14]
          · show (if q = 10 then _ else if q = 9 then _ else s.1 q) = _
            rw [if_neg (by omega), if_neg (by omega)]
  · right
    rw [if_neg c3'] at isN
    obtain ⟨t', s', a1, a2, a3, a4, a5⟩ := p_wrong (N := N) (X := X) h
    have a1' : cf_202 N X (Int32.ofNat 0) (Int32.ofNat 2) t = some (t', .inr ()) := a1
    refine ⟨t', s', ?_, ?_, a3, a4.mono (by omega) (fun _ z => z.elim), ⟨fun q r => a5.1 q (by omega), a5.2.1, a5.2.2.1, fun q r => a5.2.2.2 q (fun z => z)⟩⟩
    · unfold cf_195 cf_195_0 cf_195_8 cf_195_16 cf_195_17
      simp (disch := omega) only [ev_S, ev_C, ↓reduceIte, Nat.reduceEqDiff, Nat.reduceLeDiff, Nat.reduceAdd, Nat.reduceMul, Nat.reduceSub, reduceCtorEq, l32_0, l32_1, l32_2, l32_3, l32_4, l32_5, l32_6, l32_7, l32_8, l32_9, l32_10, e42, c3', a1', kx]
    · unfold mf_275 mf_275_0 mf_275_9 mf_275_13 mf_275_16 mf_275_20
      simp (disch := omega) only [ev_S, ev_P, ↓reduceIte, Nat.reduceEqDiff, Nat.reduceLeDiff, Nat.reduceAdd, Nat.reduceMul, Nat.reduceSub, reduceCtorEq, l32_0, l32_1, l32_2, l32_3, l32_4, l32_5, l32_6, l32_7, l32_8, l32_9, l32_10, h9, isN, a2]
end VAS
end
-- ### 89o.pure.lean.txt
section
/-! ===== PURE: calls are noted ===== -/
abbrev K4 : Type := Int32 × Int64 × Int32 × Int32
/-- the class's calls: act, name, place, how many -/
def cCl (t : cS) (L : List K4) : Prop := kI t 2 9 = Int32.ofNat L.length ∧ (∀ i (hi : i < L.length), (kA t 8).2 i = L[i].1 ∧ (kB t 9).2 i = L[i].2.1 ∧ (kA t 10).2 i = L[i].2.2.1 ∧ (kA t 11).2 i = L[i].2.2.2) ∧ (kB t 9).1 = (kA t 8).1 ∧ (kA t 10).1 = (kA t 8).1 ∧ (kA t 11).1 = (kA t 8).1 ∧ L.length ≤ (kA t 8).1 ∧ 1 ≤ (kA t 8).1 ∧ (kA t 8).1 < 13000
/-- the reference's: order, name, how many, place -/
def rCl (s : mS) (L : List K4) : Prop := s.1 29 = Int32.ofNat L.length ∧ L.length ≤ 800 ∧ ∀ i (hi : i < L.length), s.2.2.1 30 i = L[i].1 ∧ s.2.2.2 33 i = L[i].2.1 ∧ s.2.2.1 32 i = L[i].2.2.1 ∧ s.2.2.1 31 i = L[i].2.2.2
abbrev eN : Nat → Nat → Prop := fun k f => k = 2 ∧ f = 9
abbrev aN : Nat → Prop := fun k => k = 8 ∨ k = 9 ∨ k = 10 ∨ k = 11
abbrev fN (s s' : mS) : Prop := mfr (fun q => q = 29) (fun _ => False) (fun q => q = 30 ∨ q = 31 ∨ q = 32) (fun q => q = 33) s s'
section NOT
variable {N : Nat} {X : Nat → Option zz_C} {t : cS} {s : mS} {L : List K4}
theorem get_app6 {v : K4} {g4 g6 g7 : Nat → Int32} {g5 : Nat → Int64} (h : ∀ i (hi : i < L.length), g4 i = L[i].1 ∧ g5 i = L[i].2.1 ∧ g6 i = L[i].2.2.1 ∧ g7 i = L[i].2.2.2) (hv : g4 L.length = v.1 ∧ g5 L.length = v.2.1 ∧ g6 L.length = v.2.2.1 ∧ g7 L.length = v.2.2.2) : ∀ i (hi : i < (L ++ [v]).length), g4 i = (L ++ [v])[i].1 ∧ g5 i = (L ++ [v])[i].2.1 ∧ g6 i = (L ++ [v])[i].2.2.1 ∧ g7 i = (L ++ [v])[i].2.2.2 := fun i hi => by
  rw [List.length_append] at hi
  have hi : i < L.length + 1 := hi
  by_cases c : i < L.length
  · rw [List.getElem_append_left c]
    exact h i c
  · have e : i = L.length := by omega
    subst e
    rw [List.getElem_append_right (Nat.le_refl _)]
    simp only [Nat.sub_self, List.getElem_cons_zero]
    exact hv
theorem r_called {a c d : Int32} {v : Int64} (h : rCl s L) (hl : L.length < 800) : ∃ s', mf_273 N a v c d s = some (s', none) ∧ rCl s' (L ++ [(a, v, c, d)]) ∧ fN s s' := by
  obtain ⟨h1, h2, h3⟩ := h
  have ll : (L ++ [(a, v, c, d)]).length = L.length + 1 := List.length_append
  refine ⟨mI (mA (mA (mB (mA s 30 (upd (s.2.2.1 30) L.length a)) 33 (vp_updL (s.2.2.2 33) L.length v)) 32 (upd (s.2.2.1 32) L.length c)) 31 (upd (s.2.2.1 31) L.length d)) 29 (Int32.ofNat (L.length + 1)), ?_, ⟨by rw [ll]; rfl, by rw [ll]; omega, get_app6 (fun i hi => ?_) ⟨if_pos rfl, if_pos rfl, if_pos rfl, if_pos rfl⟩⟩, ⟨fun q r => if_neg r, fun _ _ => rfl, fun q r => ?_, fun q r => if_neg r⟩⟩
  · repeat ((first | unfold mf_273 | unfold mf_273_0); try simp (disch := omega) only [ev_S, ev_P, ↓reduceIte, Nat.reduceEqDiff, Nat.reduceLeDiff, Nat.reduceAdd, Nat.reduceMul, Nat.reduceSub, reduceCtorEq, l32_0, l32_1, l32_2, l32_3, l32_4, l32_29, l32_30, l32_31, l32_32, l32_33, l32_800, h1, l32_800])
  · obtain ⟨q1, q2, q3, q4⟩ := h3 i hi
    exact ⟨(upd_n (by omega)).trans q1, (updL_n (by omega)).trans q2, (upd_n (by omega)).trans q3, (upd_n (by omega)).trans q4⟩
  · show (if q = 31 then _ else if q = 32 then _ else if q = 30 then _ else s.2.2.1 q) = _
    rw [if_neg (by omega), if_neg (by omega), if_neg (by omega)]
theorem c_note {a c d : Int32} {v : Int64} (h : cCl t L) (h8 : rmG t) (hl : L.length < 6500) : ∃ t', cf_198 N X a v c d t = some (t', .inl none) ∧ cCl t' (L ++ [(a, v, c, d)]) ∧ gL eN aN t t' ∧ kL t' = kL t := by
  obtain ⟨h1, h2, h3, h4, h4b, h5, h6, h7⟩ := h
  have ll : (L ++ [(a, v, c, d)]).length = L.length + 1 := List.length_append
  have hk9 := h8.k
  by_cases cc : L.length = (kA t 8).1
  · have hl1 := lgc2 (a := (kA t 8).1) (b := 2 * L.length) h6 (by omega) (by omega)
    have hm : Nat.min L.length (2 * L.length) = L.length := Nat.min_eq_left (by omega)
    have c4 : (kA t 8).1 = L.length := cc.symm
    have c5 : (kB t 9).1 = L.length := by omega
    have c6 : (kA t 10).1 = L.length := by omega
    have c7 : (kA t 11).1 = L.length := by omega
    obtain ⟨t1, ht1⟩ : ∃ t1, t1 = jMv (jNI (jMv (jNI (jMv (jNL (jMv (jNI t 1 (2 * L.length) (kcp 0 (kA t 8).2 L.length)) 8) (2 * L.length) (kcp 0 (kB t 9).2 L.length)) 9) 1 (2 * L.length) (kcp 0 (kA t 10).2 L.length)) 10) 1 (2 * L.length) (kcp 0 (kA t 11).2 L.length)) 11 := ⟨_, rfl⟩
    have st : cf_198 N X a v c d t = cf_198_80 N X a v c d t1 := by
      rw [ht1]
      unfold cf_198 cf_198_0 cf_198_12 cf_198_29 cf_198_46 cf_198_63
      simp (disch := omega) only [ev_S, ev_C, ↓reduceIte, Nat.reduceEqDiff, Nat.reduceLeDiff, Nat.reduceAdd, Nat.reduceMul, Nat.reduceSub, reduceCtorEq, l32_0, l32_1, l32_2, l32_3, l32_4, l32_5, l32_6, l32_7, l32_8, l32_9, l32_10, h1, c4, c5, c6, c7, hm]
    have a4 : kA t1 8 = (2 * L.length, kcp 0 (kA t 8).2 L.length) := by rw [ht1]; rfl
    have a5 : kB t1 9 = (2 * L.length, kcp 0 (kB t 9).2 L.length) := by rw [ht1]; rfl
    have a6 : kA t1 10 = (2 * L.length, kcp 0 (kA t 10).2 L.length) := by rw [ht1]; rfl
    have a7 : kA t1 11 = (2 * L.length, kcp 0 (kA t 11).2 L.length) := by rw [ht1]; rfl
    have aI : kI t1 2 9 = Int32.ofNat L.length := by rw [ht1]; exact h1
    have g1 : gL eN aN t t1 := by
      have e0 : kN t1 = kN t + 1 + 1 + 1 + 1 := by rw [ht1]; rfl
      have e1 : kQ t1 = kQ t + 2 * L.length + 2 * L.length + 2 * L.length + 2 * L.length := by rw [ht1]; rfl
      have e2 : potL t1 = lgc (kA t 4).1 + lgc (kA t 5).1 + lgc (kB t 6).1 + lgc (2 * L.length) + lgc (2 * L.length) + lgc (2 * L.length) + lgc (2 * L.length) + lgc (kA t 13).1 + lgc (kA t 14).1 + lgc (kA t 15).1 + lgc (kA t 22).1 + lgc (kA t 23).1 + lgc (kA t 24).1 := by rw [ht1]; rfl
      have e3 : poqL t1 = 2 * (kA t 4).1 + 2 * (kA t 5).1 + 2 * (kB t 6).1 + 2 * (2 * L.length) + 2 * (2 * L.length) + 2 * (2 * L.length) + 2 * (2 * L.length) + 2 * (kA t 13).1 + 2 * (kA t 14).1 + 2 * (kA t 15).1 + 2 * (kA t 22).1 + 2 * (kA t 23).1 + 2 * (kA t 24).1 := by rw [ht1]; rfl
      refine ⟨fun k f r => by rw [ht1]; rfl, fun k f r => by rw [ht1]; rfl, fun k r1 r2 => ?_, by rw [ht1]; rfl, by rw [ht1]; rfl, by omega, ?_, ?_⟩
      · have q4 : ¬ k = 8 := fun z => r1 (Or.inl z)
        have q5 : ¬ k = 9 := fun z => r1 (Or.inr (Or.inl z))
        have q6 : ¬ k = 10 := fun z => r1 (Or.inr (Or.inr (Or.inl z)))
        have q7 : ¬ k = 11 := fun z => r1 (Or.inr (Or.inr (Or.inr z)))
        rw [ht1]
        refine ⟨?_, ?_, ?_⟩
        · simp (disch := omega) only [ev_S, ev_C, ↓reduceIte, Nat.reduceEqDiff, Nat.reduceLeDiff, Nat.reduceAdd, Nat.reduceMul, Nat.reduceSub, reduceCtorEq, l32_0, l32_1, l32_2, l32_3, l32_4, l32_5, l32_6, l32_7, l32_8, l32_9, l32_10, q4, q5, q6, q7, r2]
        · simp (disch := omega) only [ev_S, ev_C, ↓reduceIte, Nat.reduceEqDiff, Nat.reduceLeDiff, Nat.reduceAdd, Nat.reduceMul, Nat.reduceSub, reduceCtorEq, l32_0, l32_1, l32_2, l32_3, l32_4, l32_5, l32_6, l32_7, l32_8, l32_9, l32_10, q4, q5, q6, q7, r2]
        · simp (disch := omega) only [ev_S, ev_C, ↓reduceIte, Nat.reduceEqDiff, Nat.reduceLeDiff, Nat.reduceAdd, Nat.reduceMul, Nat.reduceSub, reduceCtorEq, l32_0, l32_1, l32_2, l32_3, l32_4, l32_5, l32_6, l32_7, l32_8, l32_9, l32_10, q4, q5, q6, q7, r2]
      · rw [e0, e2]
        unfold potL
        rw [c5, c6, c7, c4]
        rw [c4] at hl1
        omega
      · rw [e1, e3]
        unfold poqL
        omega
    refine ⟨jI (jA (jA (jB (jA t1 8 (upd (kcp 0 (kA t 8).2 L.length) L.length a)) 9 (vp_updL (kcp 0 (kB t 9).2 L.length) L.length v)) 10 (upd (kcp 0 (kA t 10).2 L.length) L.length c)) 11 (upd (kcp 0 (kA t 11).2 L.length) L.length d)) 2 9 (Int32.ofNat (L.length + 1)), ?_, ⟨by rw [ll]; rfl, ?_, ?_, ?_, ?_, ?_, ?_, ?_⟩, gL.tr (t1 := t1) g1 ⟨fun k f r => if_neg r, fun _ _ _ => rfl, fun k r1 r2 => ⟨?_, ?_, rfl⟩, rfl, rfl, Nat.le_refl _, Nat.le_refl _, Nat.le_refl _⟩, by rw [ht1]; rfl⟩
    · rw [st]
      unfold cf_198_80
      simp (disch := omega) only [ev_S, ev_C, ↓reduceIte, Nat.reduceEqDiff, Nat.reduceLeDiff, Nat.reduceAdd, Nat.reduceMul, Nat.reduceSub, reduceCtorEq, l32_0, l32_1, l32_2, l32_3, l32_4, l32_5, l32_6, l32_7, l32_8, l32_9, l32_10, aI, a4, a5, a6, a7]
    · refine get_app6 (fun i hi => ?_) ⟨if_pos rfl, if_pos rfl, if_pos rfl, if_pos rfl⟩
      obtain ⟨q1, q2, q3, q4⟩ := h2 i hi
      refine ⟨?_, ?_, ?_, ?_⟩
      · show upd (kcp 0 (kA t 8).2 L.length) L.length a i = _
        rw [upd_n (by omega), kcp_lt hi]
        exact q1
      · show vp_updL (kcp 0 (kB t 9).2 L.length) L.length v i = _
        rw [updL_n (by omega), kcp_lt hi]
        exact q2
      · show upd (kcp 0 (kA t 10).2 L.length) L.length c i = _
        rw [upd_n (by omega), kcp_lt hi]
        exact q3
      · show upd (kcp 0 (kA t 11).2 L.length) L.length d i = _
        rw [upd_n (by omega), kcp_lt hi]
        exact q4
    · show (kB t1 9).1 = (kA t1 8).1
      rw [a4, a5]
    · show (kA t1 10).1 = (kA t1 8).1
      rw [a4, a6]
    · show (kA t1 11).1 = (kA t1 8).1
      rw [a4, a7]
    · show _ ≤ (kA t1 8).1
      rw [a4, ll]
      show L.length + 1 ≤ 2 * L.length
      omega
    · show 1 ≤ (kA t1 8).1
      rw [a4]
      show 1 ≤ 2 * L.length
      omega
    · show (kA t1 8).1 < _
      rw [a4]
      show 2 * L.length < 13000
      omega
    · show (if k = 11 then _ else if k = 10 then _ else if k = 8 then _ else kA t1 k) = _
      rw [if_neg (by omega), if_neg (by omega), if_neg (by omega)]
    · show (if k = 9 then _ else kB t1 k) = _
      rw [if_neg (by omega)]
  · have c1 : L.length < (kA t 8).1 := by omega
    refine ⟨jI (jA (jA (jB (jA t 8 (upd (kA t 8).2 L.length a)) 9 (vp_updL (kB t 9).2 L.length v)) 10 (upd (kA t 10).2 L.length c)) 11 (upd (kA t 11).2 L.length d)) 2 9 (Int32.ofNat (L.length + 1)), ?_, ⟨by rw [ll]; rfl, ?_, h3, h4, h4b, by rw [ll]; exact c1, h6, h7⟩, ⟨fun k f r => if_neg r, fun _ _ _ => rfl, fun k r1 r2 => ⟨?_, ?_, rfl⟩, rfl, rfl, Nat.le_refl _, Nat.le_refl _, Nat.le_refl _⟩, rfl⟩
    · unfold cf_198 cf_198_0 cf_198_80
      simp (disch := omega) only [ev_S, ev_C, ↓reduceIte, Nat.reduceEqDiff, Nat.reduceLeDiff, Nat.reduceAdd, Nat.reduceMul, Nat.reduceSub, reduceCtorEq, l32_0, l32_1, l32_2, l32_3, l32_4, l32_5, l32_6, l32_7, l32_8, l32_9, l32_10, h1, h3, h4, h4b]
    · refine get_app6 (fun i hi => ?_) ⟨if_pos rfl, if_pos rfl, if_pos rfl, if_pos rfl⟩
      obtain ⟨q1, q2, q3, q4⟩ := h2 i hi
      refine ⟨?_, ?_, ?_, ?_⟩
      · show upd (kA t 8).2 L.length a i = _
        rw [upd_n (by omega)]
        exact q1
      · show vp_updL (kB t 9).2 L.length v i = _
        rw [updL_n (by omega)]
        exact q2
      · show upd (kA t 10).2 L.length c i = _
        rw [upd_n (by omega)]
        exact q3
      · show upd (kA t 11).2 L.length d i = _
        rw [upd_n (by omega)]
        exact q4
    · show (if k = 11 then _ else if k = 10 then _ else if k = 8 then _ else kA t k) = _
      rw [if_neg (by omega), if_neg (by omega), if_neg (by omega)]
    · show (if k = 9 then _ else kB t k) = _
      rw [if_neg (by omega)]
end NOT
end
-- ### 89p.pure.lean.txt
section
/-! ===== PURE: the picture that both parsers share ===== -/
/-- a call: instruction, offset, name, place, how many -/
abbrev Cn : Type := Nat × Nat × List Nat × Nat × Nat
def cK (code : List Ins) (c : Cn) : K4 := (Int32.ofNat (posC code c.1 + c.2.1), Int64.ofNat (evB 32 c.2.2.1), Int32.ofNat c.2.2.2.1, Int32.ofNat c.2.2.2.2)
def rK (e : Nat) (code : List Ins) (c : Cn) : K4 := (Int32.ofNat (ob0 e + posR code c.1 + c.2.1), Int64.ofNat (evB 27 c.2.2.1), Int32.ofNat c.2.2.2.2, Int32.ofNat c.2.2.2.1)
/-- how many orders, how many acts -/
def rl (code : List Ins) : Nat := (code.map rlen).sum
def cx (code : List Ins) : Nat := (code.map clen).sum
/-- what a list, a call, a put has of parts beyond its own order -/
def xlen (c : Ins) : Nat := if c.1 = 6 ∨ c.1 = 8 then c.2.1 - 1 else if c.1 = 9 then c.2.2.1 - 1 else if c.1 = 12 then c.2.1 else 0
def xl (code : List Ins) : Nat := (code.map xlen).sum
theorem xl_app {code l : List Ins} : xl (code ++ l) = xl code + xl l := by
  unfold xl
  rw [List.map_append, List.sum_append]
theorem xl_one {c : Ins} : xl [c] = xlen c := by
  unfold xl
  simp
theorem rl_app {code l : List Ins} : rl (code ++ l) = rl code + rl l := by
  unfold rl
  rw [List.map_append, List.sum_append]
theorem cx_app {code l : List Ins} : cx (code ++ l) = cx code + cx l := by
  unfold cx
  rw [List.map_append, List.sum_append]
theorem rl_one {c : Ins} : rl [c] = rlen c := by
  unfold rl
  simp
theorem cx_one {c : Ins} : cx [c] = clen c := by
  unfold cx
  simp
theorem rI_len {e : Nat} {code : List Ins} {c : Ins} : (rI e code c).length = rlen c := by
  obtain ⟨o, j, r, a, p, x, y⟩ := c
  unfold rI rlen
  dsimp only
  by_cases h0 : o ≤ 26
  · have hv : o = 0 ∨ o = 1 ∨ o = 2 ∨ o = 3 ∨ o = 4 ∨ o = 5 ∨ o = 6 ∨ o = 7 ∨ o = 8 ∨ o = 9 ∨ o = 10 ∨ o = 11 ∨ o = 12 ∨ o = 13 ∨ o = 14 ∨ o = 15 ∨ o = 16 ∨ o = 17 ∨ o = 18 ∨ o = 19 ∨ o = 20 ∨ o = 21 ∨ o = 22 ∨ o = 23 ∨ o = 24 ∨ o = 25 ∨ o = 26 := by omega
    rcases hv with rfl | rfl | rfl | rfl | rfl | rfl | rfl | rfl | rfl | rfl | rfl | rfl | rfl | rfl | rfl | rfl | rfl | rfl | rfl | rfl | rfl | rfl | rfl | rfl | rfl | rfl | rfl
    all_goals first
      | rfl
      | (simp only [Nat.reduceEqDiff, if_false, if_true]; split <;> first | rfl | (split <;> rfl))
  · simp only [show ¬ o = 0 by omega, show ¬ o = 1 by omega, show ¬ o = 2 by omega, show ¬ o = 3 by omega, show ¬ o = 4 by omega, show ¬ o = 5 by omega, show ¬ o = 6 by omega, show ¬ o = 7 by omega, show ¬ o = 8 by omega, show ¬ o = 9 by omega, show ¬ o = 10 by omega, show ¬ o = 11 by omega, show ¬ o = 12 by omega, show ¬ o = 13 by omega, show ¬ o = 14 by omega, show ¬ o = 15 by omega, show ¬ o = 16 by omega, show ¬ o = 17 by omega, show ¬ o = 18 by omega, show ¬ o = 19 by omega, show ¬ o = 20 by omega, show ¬ o = 21 by omega, show ¬ o = 22 by omega, show ¬ o = 23 by omega, show ¬ o = 24 by omega, show ¬ o = 25 by omega, show ¬ o = 26 by omega, if_false, or_self]
    rfl
theorem map_range {α : Type} {code : List Ins} {d : Ins} {g : Ins → α} : (List.range code.length).map (fun m => g (code.getD m d)) = code.map g := by
  refine List.ext_getElem (by simp) (fun m h1 h2 => ?_)
  have hm : m < code.length := by simpa using h2
  rw [List.getElem_map, List.getElem_map, List.getElem_range, List.getD_eq_getElem?_getD, List.getElem?_eq_getElem hm]
  rfl
theorem RA_len {e : Nat} {code : List Ins} : (RA e code).length = rl code := by
  unfold RA rl
  rw [List.length_flatMap]
  rw [← map_range (d := (0, 0, 0, 0, 0, 0, 0)) (g := rlen)]
  exact congrArg List.sum (List.map_congr_left fun m _ => rI_len)
theorem CA_len {code : List Ins} : (CA code).length = cx code := by
  unfold CA cx
  rw [List.length_flatMap]
  rw [← map_range (d := (0, 0, 0, 0, 0, 0, 0)) (g := clen)]
  exact congrArg List.sum (List.map_congr_left fun m _ => cI_len)
/-- what an instruction does to what lies on the stack: 0 a value, 1 the class's 0 of a minus, 2 a for, 3 a try, 4 a condition, 5 a step that was paid, 9 none comes here but by a trouble -/
def pop0 : Nat → List Nat → Option (List Nat)
  | 0, L => some L
  | k + 1, 0 :: L => pop0 k L
  | _, _ => none
/-- how many a for or a try has there -/
def nF : List Nat → Nat
  | [] => 0
  | x :: L => nF L + (if 2 ≤ x ∧ x ≤ 4 then 1 else 0)
/-- the last of a statement: it takes a value, and the step that was paid -/
def pay : List Nat → Option (List Nat)
  | 0 :: 5 :: M => some M
  | _ => none
def eff (c : Ins) (L : List Nat) : Option (List Nat) := match c.1 with
  | 0 => some (0 :: L)
  | 1 => some (0 :: L)
  | 2 => some (1 :: L)
  | 3 => (match L with | 0 :: 1 :: M => some (0 :: M) | _ => none)
  | 4 => (pop0 1 L).map (0 :: ·)
  | 5 => (pop0 2 L).map (0 :: ·)
  | 6 => (pop0 c.2.1 L).map (0 :: ·)
  | 7 => (pop0 2 L).map (0 :: ·)
  | 8 => (pop0 c.2.1 L).map (0 :: ·)
  | 9 => (pop0 c.2.2.1 L).map (0 :: ·)
  | 10 => if c.2.2.1 ≤ 2 then (pop0 c.2.2.1 L).map (0 :: ·) else none
  | 11 => pay L
  | 12 => (pop0 c.2.1 L).bind pay
  | 13 => (match L with | 0 :: 5 :: M => if nF M < 10 then some (4 :: M) else none | _ => none)
  | 14 => if c.2.2.1 = 1 then (match L with | 5 :: 2 :: M => some M | _ => none) else if c.2.2.1 = 2 then (match L with | 4 :: 5 :: M => some M | _ => none) else (match L with | 4 :: M => some M | _ => none)
  | 15 => (match L with | 5 :: M => some (5 :: 5 :: M) | _ => none)
  | 16 => (match L with | 0 :: _ => none | 1 :: _ => none | _ => some (5 :: L))
  | 17 => (match L with | 0 :: 5 :: M => if nF M < 10 then some (2 :: M) else none | _ => none)
  | 18 => (match L with | 2 :: M => some (5 :: 2 :: M) | _ => none)
  | 19 => pay L
  | 20 => (match L with | 0 :: 5 :: M => some M | [0] => some [] | _ => none)
  | 21 => pay L
  | 22 => pay L
  | 23 => (match L with | 5 :: M => if nF M < 10 then some (3 :: M) else none | _ => none)
  | 24 => (match L with | 3 :: M => some (9 :: M) | _ => none)
  | 25 => (match L with | 9 :: M => some M | _ => none)
  | 26 => (match L with | 4 :: M => some M | _ => none)
  | _ => none
def lyo (code : List Ins) : Option (List Nat) := code.foldlM (fun L c => eff c L) []
theorem lyo_app {code : List Ins} {c : Ins} : lyo (code ++ [c]) = (lyo code).bind (eff c) := by
  unfold lyo
  rw [List.foldlM_append]
  cases List.foldlM (fun L c => eff c L) [] code with
  | none => rfl
  | some L => simp
theorem pop0_app {k : Nat} {L : List Nat} : pop0 k (List.replicate k 0 ++ L) = some L := by
  induction k with
  | zero => rfl
  | succ k ih => exact ih
/-- an instruction's own numbers -/
def okI (nv : Nat) (c : Ins) : Prop := (c.1 = 1 ∨ c.1 = 11 ∨ c.1 = 12 ∨ c.1 = 18 ∨ c.1 = 23 ∨ c.1 = 25 → c.2.2.1 < 8 + nv) ∧ (c.1 = 5 → okS c.2.2.1 ∧ lv c.2.2.1 ≤ 3) ∧ (c.1 = 8 → c.2.2.1 < 28 ∧ (c.2.2.1 = 5 → c.2.1 ≤ 6) ∧ (¬ c.2.2.1 = 5 → c.2.1 = if c.2.2.1 = 3 ∨ 19 ≤ c.2.2.1 then 2 else 1)) ∧ (c.1 = 10 → c.2.2.1 = 1 ∨ c.2.2.1 = 2) ∧ (c.1 = 12 → (c.2.1 = 1 ∨ c.2.1 = 2) ∧ (c.2.1 = 2 → ¬ c.2.2.2.2.2.2 = -Int32.ofNat 1)) ∧ (c.1 = 6 → c.2.1 ≤ 2000) ∧ (c.1 = 9 → c.2.2.1 ≤ 2000)
theorem okI.mono {nv nv' : Nat} {c : Ins} (h : okI nv c) (hl : nv ≤ nv') : okI nv' c := ⟨fun z => by have := h.1 z; omega, h.2⟩
/-- no jump -/
def noJ (c : Ins) : Prop := ¬ (c.1 = 13 ∨ c.1 = 14 ∨ c.1 = 18 ∨ c.1 = 23 ∨ c.1 = 24)
/-- neither a call nor a jump -/
def xp (c : Ins) : Prop := ¬ (c.1 = 9 ∨ c.1 = 10) ∧ noJ c
/-- code from fs.1 on is the function's, with nv variables; cu lies on the stack at its end; no jumps from fs.2.1 on -/
def TY (fs : Nat × Nat × Nat) (nv : Nat) (cu : List Nat) (code : List Ins) : Prop := fs.1 ≤ code.length ∧ lyo code = some cu ∧ (∀ c ∈ code.drop fs.1, okI nv c) ∧ fs.2.1 ≤ code.length ∧ (∀ c ∈ code.drop fs.2.1, noJ c) ∧ fs.2.2 ≤ nv
theorem TY.app {fs : Nat × Nat × Nat} {js nv nv' : Nat} {cu cu' : List Nat} {code : List Ins} {c : Ins} (h : TY fs nv cu code) (hl : nv ≤ nv') (hc : eff c cu = some cu') (ho : okI nv' c) (hj : (js = fs.2.1 ∧ noJ c) ∨ js = code.length + 1) : TY (fs.1, js, fs.2.2) nv' cu' (code ++ [c]) := by
  obtain ⟨h1, h2, h3, h4, h5, h6⟩ := h
  refine ⟨by rw [List.length_append]; show fs.1 ≤ _; omega, by rw [lyo_app, h2]; exact hc, fun x hx => ?_, ?_, fun x hx => ?_, Nat.le_trans h6 hl⟩
  · have hx : x ∈ (code ++ [c]).drop fs.1 := hx
    rw [List.drop_append_of_le_length h1, List.mem_append] at hx
    rcases hx with hx | hx
    · exact (h3 x hx).mono hl
    · rw [List.mem_singleton] at hx
      rw [hx]
      exact ho
  · show js ≤ (code ++ [c]).length
    rw [List.length_append, List.length_singleton]
    rcases hj with z | z <;> omega
  · have hx : x ∈ (code ++ [c]).drop js := hx
    rcases hj with z | z
    · rw [z.1, List.drop_append_of_le_length h4, List.mem_append] at hx
      rcases hx with hx | hx
      · exact h5 x hx
      · rw [List.mem_singleton] at hx
        rw [hx]
        exact z.2
    · rw [List.drop_of_length_le (by rw [List.length_append, List.length_singleton]; omega)] at hx
      exact absurd hx (List.not_mem_nil)
theorem TY.mono {fs : Nat × Nat × Nat} {nv nv' : Nat} {cu : List Nat} {code : List Ins} (h : TY fs nv cu code) (hl : nv ≤ nv') : TY fs nv' cu code := ⟨h.1, h.2.1, fun x hx => (h.2.2.1 x hx).mono hl, h.2.2.2.1, h.2.2.2.2.1, Nat.le_trans h.2.2.2.2.2 hl⟩
abbrev dI : Ins := (0, 0, 0, 0, 0, 0, 0)
/-- a call that is noted, and its instruction -/
def okN (code : List Ins) (x : Cn) : Prop := x.1 < code.length ∧ okL x.2.2.1 ∧ x.2.2.1.length ≤ 8 ∧ x.2.2.2.1 ≤ 1600 ∧ x.2.2.2.2 ≤ 2000 ∧ (code.getD x.1 dI).2.2.1 = x.2.2.2.2 ∧ (((code.getD x.1 dI).1 = 9 ∧ x.2.1 = 0) ∨ ((code.getD x.1 dI).1 = 10 ∧ x.2.1 = 1))
/-- the calls of cl are noted; each call of the code stands in cp -/
def okX (code : List Ins) (cl cp : List Cn) : Prop := (∀ x ∈ cl, okN code x) ∧ ∀ m, m < code.length → ((code.getD m dI).1 = 9 ∨ (code.getD m dI).1 = 10) → ∃ x ∈ cp, x.1 = m
theorem okN.app {code : List Ins} {c : Ins} {x : Cn} (h : okN code x) : okN (code ++ [c]) x := by
  obtain ⟨h1, h2, h3, h4, h5, h6, h7⟩ := h
  refine ⟨by rw [List.length_append]; omega, h2, h3, h4, h5, ?_, ?_⟩
  · rw [getD_app h1]
    exact h6
  · rw [getD_app h1]
    exact h7
theorem okX.app {code : List Ins} {c : Ins} {cl cp : List Cn} (h : okX code cl cp) (hc : c.1 = 9 ∨ c.1 = 10 → ∃ x ∈ cp, x.1 = code.length) : okX (code ++ [c]) cl cp := by
  refine ⟨fun x hx => (h.1 x hx).app, fun m hm hk => ?_⟩
  rw [List.length_append, List.length_singleton] at hm
  by_cases z : m < code.length
  · rw [getD_app z] at hk
    exact h.2 m z hk
  · have z : m = code.length := by omega
    subst z
    rw [getD_last] at hk
    exact hc hk
/-- both parsers: at token i, op brackets open, D tokens not yet paid for; code of the class, code of the reference, variables, calls, what waits, what lies on the stack, where the function begins -/
def PEg (b : Nat → Nat) (n p e i op D : Nat) (code code' : List Ins) (vs : List (List Nat)) (cl cp : List Cn) (W : List Wt) (cu : List Nat) (fs : Nat × Nat × Nat) (t : cS) (s : mS) : Prop := pR b n i op t s ∧ cCd t p (CA code) ∧ rCd s e (RA e code') ∧ (wfC code ∧ wfC code' ∧ ∃ fl, code = code' ++ fl) ∧ rW s W ∧ VR vs t s ∧ cCl t (cl.map (cK code)) ∧ rCl s (cl.map (rK e code)) ∧ okX code cl cp ∧ TY fs vs.length cu code ∧ rl code + xl code + cl.length + D ≤ i + 1 ∧ cl.length ≤ rl code ∧ cx code + 3 * D ≤ 4 * i + 4
abbrev PE (b : Nat → Nat) (n p e i op D : Nat) (code code' : List Ins) (vs : List (List Nat)) (cl : List Cn) (W : List Wt) (cu : List Nat) (fs : Nat × Nat × Nat) (t : cS) (s : mS) : Prop := PEg b n p e i op D code code' vs cl cl W cu fs t s
theorem PE.cps {b : Nat → Nat} {n p e i op D : Nat} {code code' : List Ins} {vs : List (List Nat)} {cl cp : List Cn} {W : List Wt} {cu : List Nat} {fs : Nat × Nat × Nat} {t : cS} {s : mS} (h : PE b n p e i op D code code' vs cl W cu fs t s) (hc : ∀ x ∈ cl, x ∈ cp) : PEg b n p e i op D code code' vs cl cp W cu fs t s := by
  obtain ⟨h1, hc', hr, hw, hW, hV, k1, k2, k3, k4⟩ := h
  refine ⟨h1, hc', hr, hw, hW, hV, k1, k2, ⟨k3.1, fun m hm hk => ?_⟩, k4⟩
  obtain ⟨x, hx, he⟩ := k3.2 m hm hk
  exact ⟨x, hc x hx, he⟩
/-- what the class's parser may change -/
abbrev eQ (p : Nat) : Nat → Nat → Prop := fun k f => (k = 3 ∧ (f = 4 ∨ f = 5 ∨ f = 6)) ∨ (k = 2 ∧ (f = 2 ∨ f = 4 ∨ f = 9 ∨ f = 10 ∨ f = 11)) ∨ (k = p ∧ f = 3)
abbrev aQ (p : Nat) : Nat → Prop := fun k => k = 7 ∨ k = 8 ∨ k = 9 ∨ k = 10 ∨ k = 11 ∨ k = p + 1 ∨ k = p + 2 ∨ k = p + 3
/-- what waits has been put there so -/
def Kd (s : mS) : Prop := ∃ W, rW s W
theorem Kd.kp {s s' : mS} (h1 : s'.1 44 = s.1 44) (h2 : ∀ q, q = 38 ∨ q = 39 ∨ q = 40 ∨ q = 41 ∨ q = 43 → s'.2.2.1 q = s.2.2.1 q) (h3 : s'.2.2.2 42 = s.2.2.2 42) (h : Kd s) : Kd s' := by
  obtain ⟨W, a1, a2, a3⟩ := h
  exact ⟨W, by rw [h1]; exact a1, a2, by rw [h2 38 (by omega), h2 39 (by omega), h2 40 (by omega), h2 41 (by omega), h2 43 (by omega), h3]; exact a3⟩
/-- and the reference's -/
def fQ (e : Nat) (s s' : mS) : Prop := (∀ q, ¬ (q = 5 ∨ q = 6 ∨ q = 8 ∨ q = 9 ∨ q = 10 ∨ q = 11 ∨ q = 22 ∨ q = 28 ∨ q = 29 ∨ q = 44) → s'.1 q = s.1 q) ∧ (∀ q, ¬ q = 7 → s'.2.1 q = s.2.1 q) ∧ (∀ q, ¬ (q = 23 ∨ q = 24 ∨ q = 25 ∨ q = 26 ∨ q = 27 ∨ q = 30 ∨ q = 31 ∨ q = 32 ∨ q = 38 ∨ q = 39 ∨ q = 40 ∨ q = 41 ∨ q = 43) → s'.2.2.1 q = s.2.2.1 q) ∧ (∀ q, ¬ (q = 21 ∨ q = 33 ∨ q = 42) → s'.2.2.2 q = s.2.2.2 q) ∧ (∀ q y, (q = 23 ∨ q = 24 ∨ q = 25 ∨ q = 26 ∨ q = 27) → (y < ob0 e ∨ ob0 e + 4000 ≤ y) → s'.2.2.1 q y = s.2.2.1 q y) ∧ (Kd s → Kd s')
theorem fQ.rf {e : Nat} {s : mS} : fQ e s s := ⟨fun _ _ => rfl, fun _ _ => rfl, fun _ _ => rfl, fun _ _ => rfl, fun _ _ _ _ => rfl, fun z => z⟩
theorem fQ.tr {e : Nat} {s s1 s2 : mS} (h : fQ e s s1) (g : fQ e s1 s2) : fQ e s s2 := ⟨fun q r => (g.1 q r).trans (h.1 q r), fun q r => (g.2.1 q r).trans (h.2.1 q r), fun q r => (g.2.2.1 q r).trans (h.2.2.1 q r), fun q r => (g.2.2.2.1 q r).trans (h.2.2.2.1 q r), fun q y r1 r2 => (g.2.2.2.2.1 q y r1 r2).trans (h.2.2.2.2.1 q y r1 r2), fun z => g.2.2.2.2.2 (h.2.2.2.2.2 z)⟩
section KEE
variable {N : Nat} {X : Nat → Option zz_C} {t t' : cS} {s s' : mS} {b : Nat → Nat} {n p e i op D : Nat} {code code' : List Ins} {vs : List (List Nat)} {cl : List Cn} {W : List Wt} {cu : List Nat} {fs : Nat × Nat × Nat} {E : Nat → Nat → Prop} {A : Nat → Prop}
theorem fPs.Q (f : fPs s s') : fQ e s s' := ⟨fun q r => f.1 q (by omega), f.2.1, fun q r => f.2.2.1 q (fun z => z), fun q r => f.2.2.2 q (fun z => z), fun q y _ _ => congrFun (f.2.2.1 q (fun z => z)) y, Kd.kp (f.1 44 (by omega)) (fun q _ => f.2.2.1 q (fun z => z)) (f.2.2.2 42 (fun z => z))⟩
theorem fV.Q (f : fV s s') : fQ e s s' := ⟨fun q r => f.1 q (by omega), f.2.1, fun q r => f.2.2.1 q (fun z => z), fun q r => f.2.2.2 q (by omega), fun q y _ _ => congrFun (f.2.2.1 q (fun z => z)) y, Kd.kp (f.1 44 (by omega)) (fun q _ => f.2.2.1 q (fun z => z)) (f.2.2.2 42 (by omega))⟩
theorem fO.Q (f : fO e s s') : fQ e s s' := ⟨fun q r => f.1 q (by omega), fun q _ => f.2.1 q, fun q r => f.2.2.1 q (by omega), fun q r => f.2.2.2.1 q, fun q y _ r => f.2.2.2.2 q y r, Kd.kp (f.1 44 (by omega)) (fun q _ => f.2.2.1 q (by omega)) (f.2.2.2.1 42)⟩
theorem fN.Q (f : fN s s') : fQ e s s' := ⟨fun q r => f.1 q (by omega), fun q _ => f.2.1 q (fun z => z), fun q r => f.2.2.1 q (by omega), fun q r => f.2.2.2 q (by omega), fun q y r _ => congrFun (f.2.2.1 q (by omega)) y, Kd.kp (f.1 44 (by omega)) (fun q _ => f.2.2.1 q (by omega)) (f.2.2.2 42 (by omega))⟩
theorem fW.Q (f : fW s s') (k : Kd s') : fQ e s s' := ⟨fun q r => f.1 q (by omega), fun q _ => f.2.1 q (fun z => z), fun q r => f.2.2.1 q (by omega), fun q r => f.2.2.2 q (by omega), fun q y r _ => congrFun (f.2.2.1 q (by omega)) y, fun _ => k⟩
theorem pR.kC (h : pR b n i op t s) (g : gL E A t t') (gl : kL t' = kL t) (hE : ∀ k f, E k f → ¬ (k = 3) ∧ ¬ (k = 2 ∧ (f = 2 ∨ f = 10 ∨ f = 11))) (hA : ∀ k, A k → ¬ (k = 4 ∨ k = 5 ∨ k = 6)) : pR b n i op t' s := by
  obtain ⟨⟨h1, h2, h3, h4, h5, h6, h7, h8⟩, ⟨c4, hl, c5, c6, c7⟩, d3, d4, d5, d6, d7, d8, d9, d10⟩ := h
  have e3 : ∀ f, kI t' 3 f = kI t 3 f := fun f => g.1 3 f (fun z => (hE 3 f z).1 rfl)
  have a4 := (g.2.2.1 4 (fun z => hA 4 z (Or.inl rfl)) (by decide)).1
  have a5 := (g.2.2.1 5 (fun z => hA 5 z (Or.inr (Or.inl rfl))) (by decide)).1
  have a6 := (g.2.2.1 6 (fun z => hA 6 z (Or.inr (Or.inr rfl))) (by decide)).2.1
  refine ⟨⟨by rw [e3]; exact h1, by rw [a4, a5, a6]; exact h2, by rw [a4, a5]; exact h3, by rw [a4, a6]; exact h4, by rw [a4]; exact h5, by rw [a4]; exact h6, by rw [a4]; exact h7, g.rm h8⟩, ⟨by rw [e3]; exact c4, hl, by rw [e3]; exact c5, by rw [e3]; exact c6, by rw [gl]; exact c7⟩, ?_, d4, d5, d6, d7, d8, d9, d10⟩
  rw [g.1 2 2 (fun z => (hE 2 2 z).2 ⟨rfl, Or.inl rfl⟩), g.1 2 10 (fun z => (hE 2 10 z).2 ⟨rfl, Or.inr (Or.inl rfl)⟩), g.1 2 11 (fun z => (hE 2 11 z).2 ⟨rfl, Or.inr (Or.inr rfl)⟩)]
  exact d3
theorem pR.kR (h : pR b n i op t s) (h1 : ∀ q, q = 4 ∨ q = 5 ∨ q = 6 ∨ q = 8 ∨ q = 9 ∨ q = 11 → s'.1 q = s.1 q) (h2 : s'.2.1 7 = s.2.1 7) (h3 : s'.2.2.1 2 = s.2.2.1 2) (h4 : s'.2.2.2 0 = s.2.2.2 0) : pR b n i op t s' := by
  obtain ⟨c1, c2, d3, d4, d5, ⟨x1, x2, x3, x4⟩, ⟨hi, k1, k2, k3⟩, d8, d9, d10⟩ := h
  refine ⟨c1, c2, d3, d4, d5, ⟨by rw [h1 4 (by omega)]; exact x1, x2, x3, by rw [h3]; exact x4⟩, ⟨hi, by rw [h1 6 (by omega)]; exact k1, by rw [h1 8 (by omega)]; exact k2, by rw [h1 5 (by omega), h2]; exact k3⟩, fun w hw => by rw [h4]; exact d8 w hw, by rw [h1 11 (by omega)]; exact d9, by rw [h1 9 (by omega)]; exact d10⟩
theorem cCd.keep {L : List C3} (h : cCd t p L) (g : gL E A t t') (hE : ¬ E p 3) (hA : ∀ k, A k → ¬ (k = p + 1 ∨ k = p + 2 ∨ k = p + 3)) (hP : kP t' 2 1 = kP t 2 1) : cCd t' p L := by
  obtain ⟨h0, hp, h1, h2, h3, h4, h5, h6, h7⟩ := h
  have a1 := (g.2.2.1 (p + 1) (fun z => hA _ z (Or.inl rfl)) (by omega)).1
  have a2 := (g.2.2.1 (p + 2) (fun z => hA _ z (Or.inr (Or.inl rfl))) (by omega)).1
  have a3 := (g.2.2.1 (p + 3) (fun z => hA _ z (Or.inr (Or.inr rfl))) (by omega)).1
  exact ⟨by rw [hP]; exact h0, hp, by rw [g.1 _ _ hE]; exact h1, by rw [a1, a2, a3]; exact h2, by rw [a1, a2]; exact h3, by rw [a1, a3]; exact h4, by rw [a1]; exact h5, by rw [a1]; exact h6, by rw [a1]; exact h7⟩
theorem cCl.keep {L : List K4} (h : cCl t L) (g : gL E A t t') (hE : ¬ E 2 9) (hA : ∀ k, A k → ¬ (k = 8 ∨ k = 9 ∨ k = 10 ∨ k = 11)) : cCl t' L := by
  obtain ⟨h1, h2, h3, h4, h4b, h5, h6, h7⟩ := h
  have a8 := (g.2.2.1 8 (fun z => hA 8 z (by omega)) (by decide)).1
  have a9 := (g.2.2.1 9 (fun z => hA 9 z (by omega)) (by decide)).2.1
  have a10 := (g.2.2.1 10 (fun z => hA 10 z (by omega)) (by decide)).1
  have a11 := (g.2.2.1 11 (fun z => hA 11 z (by omega)) (by decide)).1
  exact ⟨by rw [g.1 _ _ hE]; exact h1, by rw [a8, a9, a10, a11]; exact h2, by rw [a8, a9]; exact h3, by rw [a8, a10]; exact h4, by rw [a8, a11]; exact h4b, by rw [a8]; exact h5, by rw [a8]; exact h6, by rw [a8]; exact h7⟩
theorem rCd.keep {L : List R5} (h : rCd s e L) (h1 : s'.1 12 = s.1 12) (h2 : s'.1 28 = s.1 28) (h3 : ∀ q, q = 23 ∨ q = 24 ∨ q = 25 ∨ q = 26 ∨ q = 27 → s'.2.2.1 q = s.2.2.1 q) : rCd s' e L := by
  obtain ⟨a1, a2, a3, a4, a5⟩ := h
  exact ⟨by rw [h1]; exact a1, a2, by rw [h2]; exact a3, a4, by rw [h3 23 (by omega), h3 24 (by omega), h3 25 (by omega), h3 26 (by omega), h3 27 (by omega)]; exact a5⟩
theorem rCl.keep {L : List K4} (h : rCl s L) (h1 : s'.1 29 = s.1 29) (h2 : ∀ q, q = 30 ∨ q = 31 ∨ q = 32 → s'.2.2.1 q = s.2.2.1 q) (h3 : s'.2.2.2 33 = s.2.2.2 33) : rCl s' L := by
  obtain ⟨a1, a2, a3⟩ := h
  exact ⟨by rw [h1]; exact a1, a2, by rw [h2 30 (by omega), h2 31 (by omega), h2 32 (by omega), h3]; exact a3⟩
theorem rW.keep {W : List Wt} (h : rW s W) (h1 : s'.1 44 = s.1 44) (h2 : ∀ q, q = 38 ∨ q = 39 ∨ q = 40 ∨ q = 41 ∨ q = 43 → s'.2.2.1 q = s.2.2.1 q) (h3 : s'.2.2.2 42 = s.2.2.2 42) : rW s' W := by
  obtain ⟨a1, a2, a3⟩ := h
  exact ⟨by rw [h1]; exact a1, a2, by rw [h2 38 (by omega), h2 39 (by omega), h2 40 (by omega), h2 41 (by omega), h2 43 (by omega), h3]; exact a3⟩
/-- a token more, not yet paid for -/
theorem PE.adv (hN : 170000 ≤ N) (h : PE b n p e i op D code code' vs cl W cu fs t s) (h2 : ∀ hi : i < (TL b n).length, 2 ≤ (TL b n)[i].1) : ∃ t' s', cf_46 N X t = some (t', .inl none) ∧ mf_260 N s = some (s', none) ∧ PE b n p e (i + 1) op (D + 1) code code' vs cl W cu fs t' s' ∧ gL (eQ p) (aQ p) t t' ∧ fQ e s s' := by
  obtain ⟨h1, hc, hr, hw, hW, hV, k1, k2, k3, k4, k5, k6, k7⟩ := h
  obtain ⟨t', s', a1, a2, a3, a4, a5⟩ := p_adv (N := N) (X := X) hN h1 h2
  have hp := hc.2.1
  refine ⟨t', s', a1, a2, ⟨a3, hc.keep a4 (by rcases hp with z | z <;> subst z <;> omega) (fun _ z => z.elim) (a4.p21 (by omega)), hr.keep (a5.1 12 (by omega)) (a5.1 28 (by omega)) (fun q _ => a5.2.2.1 q (fun z => z)), hw, hW.keep (a5.1 44 (by omega)) (fun q _ => a5.2.2.1 q (fun z => z)) (a5.2.2.2 42 (fun z => z)), hV.keep (a4.1 2 4 (by omega)) (a4.2.2.1 7 (fun z => z) (by decide)).2.1 (a5.1 22 (by omega)) (a5.2.2.2 21 (fun z => z)), k1.keep a4 (by omega) (fun _ z => z.elim), k2.keep (a5.1 29 (by omega)) (fun q _ => a5.2.2.1 q (fun z => z)) (a5.2.2.2 33 (fun z => z)), k3, k4, by omega, k6, by omega⟩, a4.mono (by omega) (fun _ z => z.elim), fPs.Q a5⟩
end KEE
end
