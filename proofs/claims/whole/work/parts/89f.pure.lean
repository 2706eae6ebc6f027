/-! ===== PURE: the reference looks at its token ===== -/
/-- the reference's words -/
def rWd (s : mS) : Prop := ∀ w, w < 41 → s.2.2.2 0 w = Int64.ofNat (evB 27 (wd w))
theorem evB_27 {l : List Nat} (h : okL l) (h8 : l.length ≤ 8) : evB 27 l < 1099511627776 := by
  have h1 := evB_lt (B := 27) (by decide) h
  have h2 : (27 : Nat) ^ l.length ≤ 27 ^ 8 := Nat.pow_le_pow_right (by decide) h8
  have e : (27 : Nat) ^ 8 = 282429536481 := by decide
  omega
/-- a token is as lex makes them -/
def okT (k : Tk) : Prop := k.1 = 0 ∨ k.1 = 1 ∨ (k.1 = 2 ∧ k.2.1 ≤ 2147483647) ∨ (k.1 = 3 ∧ okL k.2.2.1 ∧ k.2.2.1.length ≤ 8) ∨ (33 ≤ k.1 ∧ k.1 < 512)
theorem rTk.ok {s : mS} {k : Tk} (h : rTk s k) : okT k := by
  obtain ⟨-, -, h⟩ := h
  rcases h with ⟨h, -⟩ | ⟨h, -⟩ | ⟨h, -, -, h2⟩ | ⟨h, -, -, h2, h3⟩ | ⟨h, h2, -⟩
  · exact Or.inl h
  · exact Or.inr (Or.inl h)
  · exact Or.inr (Or.inr (Or.inl ⟨h, h2⟩))
  · exact Or.inr (Or.inr (Or.inr (Or.inl ⟨h, h3, h2⟩)))
  · exact Or.inr (Or.inr (Or.inr (Or.inr ⟨h, h2⟩)))
/-- the kind, as the class has it -/
def ck (k : Tk) : Nat := if k.1 = 3 then (if (wix k.2.2.1).isSome then 4 else 3) else k.1
/-- a fault is told -/
abbrev flt (s : mS) (x y : Int32) : mS := mI (mI s 9 x) 10 y
section RLK
variable {N : Nat} {s : mS} {k : Tk} {b : Nat → Nat} {n : Nat}
theorem sgv_lt (k : Nat) : sgv k < 260 := by
  unfold sgv
  split
  · omega
  · split
    · omega
    · split
      · omega
      · split <;> omega
theorem sgv_eq {k c : Nat} (hc : c < 256) : sgv k = c ↔ k = c := by
  unfold sgv
  split
  · exact Iff.rfl
  · refine ⟨fun h => ?_, fun h => by omega⟩
    split at h
    · omega
    · split at h
      · omega
      · split at h <;> omega
theorem r_isSign {c : Nat} (h : rTk s k) (h1 : 33 ≤ c) (h2 : c < 256) : mf_263 N (Int32.ofNat c) s = some (s, some (.int (if k.1 = c then 1 else 0))) := by
  obtain ⟨-, -, h⟩ := h
  rcases h with ⟨h, e5⟩ | ⟨h, e5⟩ | ⟨h, e5, -, -⟩ | ⟨h, e5, -, -, -⟩ | ⟨h, h3, e5, e7⟩
  · rw [if_neg (by omega)]
    repeat ((first | unfold mf_263 | unfold mf_263_0 | unfold mf_263_8 | unfold mf_263_18 | unfold mf_263_22 | unfold mf_263_23); try simp (disch := omega) only [ev_S, ev_P, ↓reduceIte, Nat.reduceEqDiff, Nat.reduceLeDiff, Nat.reduceAdd, Nat.reduceMul, Nat.reduceSub, reduceCtorEq, l32_0, l32_1, l32_2, l32_3, l32_4, l32_5, l32_7, e5])
  · rw [if_neg (by omega)]
    repeat ((first | unfold mf_263 | unfold mf_263_0 | unfold mf_263_8 | unfold mf_263_18 | unfold mf_263_22 | unfold mf_263_23); try simp (disch := omega) only [ev_S, ev_P, ↓reduceIte, Nat.reduceEqDiff, Nat.reduceLeDiff, Nat.reduceAdd, Nat.reduceMul, Nat.reduceSub, reduceCtorEq, l32_0, l32_1, l32_2, l32_3, l32_4, l32_5, l32_7, e5])
  · rw [if_neg (by omega)]
    repeat ((first | unfold mf_263 | unfold mf_263_0 | unfold mf_263_8 | unfold mf_263_18 | unfold mf_263_22 | unfold mf_263_23); try simp (disch := omega) only [ev_S, ev_P, ↓reduceIte, Nat.reduceEqDiff, Nat.reduceLeDiff, Nat.reduceAdd, Nat.reduceMul, Nat.reduceSub, reduceCtorEq, l32_0, l32_1, l32_2, l32_3, l32_4, l32_5, l32_7, e5])
  · rw [if_neg (by omega)]
    repeat ((first | unfold mf_263 | unfold mf_263_0 | unfold mf_263_8 | unfold mf_263_18 | unfold mf_263_22 | unfold mf_263_23); try simp (disch := omega) only [ev_S, ev_P, ↓reduceIte, Nat.reduceEqDiff, Nat.reduceLeDiff, Nat.reduceAdd, Nat.reduceMul, Nat.reduceSub, reduceCtorEq, l32_0, l32_1, l32_2, l32_3, l32_4, l32_5, l32_7, e5])
  · have hs := sgv_lt k.1
    by_cases e : k.1 = c
    · rw [if_pos e]
      have e1 := (sgv_eq h2).mpr e
      repeat ((first | unfold mf_263 | unfold mf_263_0 | unfold mf_263_8 | unfold mf_263_18 | unfold mf_263_22 | unfold mf_263_23); try simp (disch := omega) only [ev_S, ev_P, ↓reduceIte, Nat.reduceEqDiff, Nat.reduceLeDiff, Nat.reduceAdd, Nat.reduceMul, Nat.reduceSub, reduceCtorEq, l32_0, l32_1, l32_2, l32_3, l32_4, l32_5, l32_7, e5, e7, i64of32, lg_eq0, e1])
    · rw [if_neg e]
      have e1 : ¬ sgv k.1 = c := fun q => e ((sgv_eq h2).mp q)
      repeat ((first | unfold mf_263 | unfold mf_263_0 | unfold mf_263_8 | unfold mf_263_18 | unfold mf_263_22 | unfold mf_263_23); try simp (disch := omega) only [ev_S, ev_P, ↓reduceIte, Nat.reduceEqDiff, Nat.reduceLeDiff, Nat.reduceAdd, Nat.reduceMul, Nat.reduceSub, reduceCtorEq, l32_0, l32_1, l32_2, l32_3, l32_4, l32_5, l32_7, e5, e7, i64of32, lg_eq0, e1])
theorem r_wrong (h : rTk s k) (h0 : s.1 9 = 0) : mf_262 N s = some (flt s (if k.1 = 1 then 1 else 2) (Int32.ofNat k.2.2.2.1), none) := by
  obtain ⟨e6, -, h⟩ := h
  have e9 : ∀ x y : Int32, mf_261 N x y s = some (flt s x y, none) := fun x y => by
    unfold mf_261 mf_261_0
    rw [if_pos (by rw [h0]; decide)]
    rfl
  rcases h with ⟨h, e5⟩ | ⟨h, e5⟩ | ⟨h, e5, -, -⟩ | ⟨h, e5, -, -, -⟩ | ⟨h, h3, e5, e7⟩
  · rw [if_neg (by omega)]
    repeat ((first | unfold mf_262 | unfold mf_262_0 | unfold mf_262_9 | unfold mf_262_13 | unfold mf_262_14 | unfold mf_262_21); try simp (disch := omega) only [ev_S, ev_P, ↓reduceIte, Nat.reduceEqDiff, Nat.reduceLeDiff, Nat.reduceAdd, Nat.reduceMul, Nat.reduceSub, reduceCtorEq, l32_0, l32_1, l32_2, l32_3, l32_4, l32_5, l32_6, e5, e6, e9])
  · rw [if_pos h]
    repeat ((first | unfold mf_262 | unfold mf_262_0 | unfold mf_262_9 | unfold mf_262_13 | unfold mf_262_14 | unfold mf_262_21); try simp (disch := omega) only [ev_S, ev_P, ↓reduceIte, Nat.reduceEqDiff, Nat.reduceLeDiff, Nat.reduceAdd, Nat.reduceMul, Nat.reduceSub, reduceCtorEq, l32_0, l32_1, l32_2, l32_3, l32_4, l32_5, l32_6, e5, e6, e9])
  · rw [if_neg (by omega)]
    repeat ((first | unfold mf_262 | unfold mf_262_0 | unfold mf_262_9 | unfold mf_262_13 | unfold mf_262_14 | unfold mf_262_21); try simp (disch := omega) only [ev_S, ev_P, ↓reduceIte, Nat.reduceEqDiff, Nat.reduceLeDiff, Nat.reduceAdd, Nat.reduceMul, Nat.reduceSub, reduceCtorEq, l32_0, l32_1, l32_2, l32_3, l32_4, l32_5, l32_6, e5, e6, e9])
  · rw [if_neg (by omega)]
    repeat ((first | unfold mf_262 | unfold mf_262_0 | unfold mf_262_9 | unfold mf_262_13 | unfold mf_262_14 | unfold mf_262_21); try simp (disch := omega) only [ev_S, ev_P, ↓reduceIte, Nat.reduceEqDiff, Nat.reduceLeDiff, Nat.reduceAdd, Nat.reduceMul, Nat.reduceSub, reduceCtorEq, l32_0, l32_1, l32_2, l32_3, l32_4, l32_5, l32_6, e5, e6, e9])
  · rw [if_neg (by omega)]
    repeat ((first | unfold mf_262 | unfold mf_262_0 | unfold mf_262_9 | unfold mf_262_13 | unfold mf_262_14 | unfold mf_262_21); try simp (disch := omega) only [ev_S, ev_P, ↓reduceIte, Nat.reduceEqDiff, Nat.reduceLeDiff, Nat.reduceAdd, Nat.reduceMul, Nat.reduceSub, reduceCtorEq, l32_0, l32_1, l32_2, l32_3, l32_4, l32_5, l32_6, e5, e6, e9])
theorem r_breaks {x y : Int32} (h0 : s.1 9 = 0) : mf_261 N x y s = some (flt s x y, none) := by
  unfold mf_261 mf_261_0
  rw [if_pos (by rw [h0]; decide)]
  rfl
/-- which word the token is -/
theorem r_wordHere (hN : 170000 ≤ N) (hw : rWd s) (h : rTk s k) : mf_265 N s = some (s, some (.int (if k.1 = 3 then (match wix k.2.2.1 with
  | some i => Int32.ofNat i
  | none => -Int32.ofNat 1) else -Int32.ofNat 1))) := by
  obtain ⟨-, -, h⟩ := h
  rcases h with ⟨h, e5⟩ | ⟨h, e5⟩ | ⟨h, e5, -, -⟩ | ⟨h, e5, e7, h8, ho⟩ | ⟨h, h3, e5, e7⟩
  · rw [if_neg (by omega)]
    repeat ((first | unfold mf_265 | unfold mf_265_0 | unfold mf_265_8 | unfold mf_265_10 | unfold mf_265_12 | unfold mf_265_18 | unfold mf_265_32 | unfold mf_265_34 | unfold mf_265_40); try simp (disch := omega) only [ev_S, ev_P, ↓reduceIte, Nat.reduceEqDiff, Nat.reduceLeDiff, Nat.reduceAdd, Nat.reduceMul, Nat.reduceSub, reduceCtorEq, l32_0, l32_1, l32_2, l32_3, l32_4, l32_5, l32_7, l32_41, e5])
  · rw [if_neg (by omega)]
    repeat ((first | unfold mf_265 | unfold mf_265_0 | unfold mf_265_8 | unfold mf_265_10 | unfold mf_265_12 | unfold mf_265_18 | unfold mf_265_32 | unfold mf_265_34 | unfold mf_265_40); try simp (disch := omega) only [ev_S, ev_P, ↓reduceIte, Nat.reduceEqDiff, Nat.reduceLeDiff, Nat.reduceAdd, Nat.reduceMul, Nat.reduceSub, reduceCtorEq, l32_0, l32_1, l32_2, l32_3, l32_4, l32_5, l32_7, l32_41, e5])
  · rw [if_neg (by omega)]
    repeat ((first | unfold mf_265 | unfold mf_265_0 | unfold mf_265_8 | unfold mf_265_10 | unfold mf_265_12 | unfold mf_265_18 | unfold mf_265_32 | unfold mf_265_34 | unfold mf_265_40); try simp (disch := omega) only [ev_S, ev_P, ↓reduceIte, Nat.reduceEqDiff, Nat.reduceLeDiff, Nat.reduceAdd, Nat.reduceMul, Nat.reduceSub, reduceCtorEq, l32_0, l32_1, l32_2, l32_3, l32_4, l32_5, l32_7, l32_41, e5])
  · rw [if_pos h]
    have hv := evB_27 ho h8
    have st : mf_265 N s = mf_265_L2 N N 0 (Int32.ofNat 0) s := by
      unfold mf_265 mf_265_0 mf_265_10
      simp (disch := omega) only [ev_S, ev_P, ↓reduceIte, Nat.reduceEqDiff, Nat.reduceLeDiff, Nat.reduceAdd, Nat.reduceMul, Nat.reduceSub, reduceCtorEq, l32_0, l32_1, l32_2, l32_3, l32_4, l32_5, l32_6, l32_7, l32_8, l32_9, l32_10, e5]
    rw [st]
    generalize k.2.2.1 = ls at *
    have step : ∀ i q, i < 41 → ¬ wd i = ls → mf_265_L2 N (q + 1) 0 (Int32.ofNat i) s = mf_265_L2 N q 0 (Int32.ofNat (i + 1)) s := fun i q hi hne => by
      show mf_265_12 N (mf_265_L2 N q) (Int32.ofNat i) s = _
      have y2 := hw i hi
      obtain ⟨w1, w2⟩ := wd_ok i hi
      have hw := evB_27 w1 w2
      have hne2 : ¬ evB 27 (wd i) = evB 27 ls := fun e => hne (evB_inj (by decide) w1 ho e)
      unfold mf_265_12 mf_265_18 mf_265_34
      simp (disch := omega) only [ev_S, ev_P, ↓reduceIte, Nat.reduceEqDiff, Nat.reduceLeDiff, Nat.reduceAdd, Nat.reduceMul, Nat.reduceSub, reduceCtorEq, l32_0, l32_1, l32_2, l32_3, l32_4, l32_5, l32_6, l32_7, l32_8, l32_9, l32_10, y2, e7, lg_eq0, hne2, l32_41]
    cases hx : wix ls with
    | some i =>
      obtain ⟨hi, he⟩ := wix_some hx
      have go : ∀ d j q, j + d = i → mf_265_L2 N (q + (d + 1)) 0 (Int32.ofNat j) s = some (s, some (.int (Int32.ofNat i))) := by
        intro d
        induction d with
        | zero =>
          intro j q hj
          have hj : j = i := hj
          subst hj
          show mf_265_12 N (mf_265_L2 N q) (Int32.ofNat j) s = _
          have y2 := hw j hi
          rw [he] at y2
          unfold mf_265_12 mf_265_18 mf_265_32
          simp (disch := omega) only [ev_S, ev_P, ↓reduceIte, Nat.reduceEqDiff, Nat.reduceLeDiff, Nat.reduceAdd, Nat.reduceMul, Nat.reduceSub, reduceCtorEq, l32_0, l32_1, l32_2, l32_3, l32_4, l32_5, l32_6, l32_7, l32_8, l32_9, l32_10, y2, e7, lg_eq0, l32_41]
        | succ d ih =>
          intro j q hj
          rw [← Nat.add_assoc, step j _ (by omega) (fun e => by
            have := wd_inj j i (by omega) hi (e.trans he.symm)
            omega)]
          exact ih (j + 1) q (by omega)
      have e := go i 0 (N - (i + 1)) (Nat.zero_add _)
      rw [show N - (i + 1) + (i + 1) = N by omega] at e
      exact e
    | none =>
      have hn := wix_none hx
      have go : ∀ d j q, j + d = 41 → mf_265_L2 N (q + (d + 1)) 0 (Int32.ofNat j) s = some (s, some (.int (-Int32.ofNat 1))) := by
        intro d
        induction d with
        | zero =>
          intro j q hj
          have hj : j = 41 := hj
          subst hj
          show mf_265_12 N (mf_265_L2 N q) (Int32.ofNat 41) s = _
          unfold mf_265_12 mf_265_40
          simp (disch := omega) only [ev_S, ev_P, ↓reduceIte, Nat.reduceEqDiff, Nat.reduceLeDiff, Nat.reduceAdd, Nat.reduceMul, Nat.reduceSub, reduceCtorEq, l32_0, l32_1, l32_2, l32_3, l32_4, l32_5, l32_6, l32_7, l32_8, l32_9, l32_10, l32_41]
        | succ d ih =>
          intro j q hj
          rw [← Nat.add_assoc, step j _ (by omega) (hn j (by omega))]
          exact ih (j + 1) q (by omega)
      have e := go 41 0 (N - 42) rfl
      rw [show N - 42 + (41 + 1) = N by omega] at e
      exact e
  · rw [if_neg (by omega)]
    repeat ((first | unfold mf_265 | unfold mf_265_0 | unfold mf_265_8 | unfold mf_265_10 | unfold mf_265_12 | unfold mf_265_18 | unfold mf_265_32 | unfold mf_265_34 | unfold mf_265_40); try simp (disch := omega) only [ev_S, ev_P, ↓reduceIte, Nat.reduceEqDiff, Nat.reduceLeDiff, Nat.reduceAdd, Nat.reduceMul, Nat.reduceSub, reduceCtorEq, l32_0, l32_1, l32_2, l32_3, l32_4, l32_5, l32_7, l32_41, e5])
theorem ck_3 : ck k = 3 ↔ k.1 = 3 ∧ wix k.2.2.1 = none := by
  unfold ck
  by_cases h : k.1 = 3
  · rw [if_pos h]
    cases hw : wix k.2.2.1 with
    | some i => exact ⟨fun q => (by cases q), fun q => (by cases q.2)⟩
    | none => exact ⟨fun _ => ⟨h, rfl⟩, fun _ => rfl⟩
  · rw [if_neg h]
    exact ⟨fun q => absurd q h, fun q => absurd q.1 h⟩
theorem r_isName (hN : 170000 ≤ N) (hw : rWd s) (h : rTk s k) : mf_266 N s = some (s, some (.int (if ck k = 3 then 1 else 0))) := by
  have hh := r_wordHere (N := N) hN hw h
  have h5 := h.2.2
  have ih : (if ck k = 3 then (1 : Int32) else 0) = if k.1 = 3 ∧ wix k.2.2.1 = none then 1 else 0 := ite_c ck_3
  rw [ih]
  rcases h5 with ⟨h, e5⟩ | ⟨h, e5⟩ | ⟨h, e5, -, -⟩ | ⟨h, e5, e7, h8, ho⟩ | ⟨h, h3, e5, e7⟩
  · rw [if_neg (by omega)]
    repeat ((first | unfold mf_266 | unfold mf_266_0 | unfold mf_266_8 | unfold mf_266_12 | unfold mf_266_15 | unfold mf_266_19 | unfold mf_266_20); try simp (disch := omega) only [ev_S, ev_P, ↓reduceIte, Nat.reduceEqDiff, Nat.reduceLeDiff, Nat.reduceAdd, Nat.reduceMul, Nat.reduceSub, reduceCtorEq, l32_0, l32_1, l32_2, l32_3, l32_4, l32_5, e5])
  · rw [if_neg (by omega)]
    repeat ((first | unfold mf_266 | unfold mf_266_0 | unfold mf_266_8 | unfold mf_266_12 | unfold mf_266_15 | unfold mf_266_19 | unfold mf_266_20); try simp (disch := omega) only [ev_S, ev_P, ↓reduceIte, Nat.reduceEqDiff, Nat.reduceLeDiff, Nat.reduceAdd, Nat.reduceMul, Nat.reduceSub, reduceCtorEq, l32_0, l32_1, l32_2, l32_3, l32_4, l32_5, e5])
  · rw [if_neg (by omega)]
    repeat ((first | unfold mf_266 | unfold mf_266_0 | unfold mf_266_8 | unfold mf_266_12 | unfold mf_266_15 | unfold mf_266_19 | unfold mf_266_20); try simp (disch := omega) only [ev_S, ev_P, ↓reduceIte, Nat.reduceEqDiff, Nat.reduceLeDiff, Nat.reduceAdd, Nat.reduceMul, Nat.reduceSub, reduceCtorEq, l32_0, l32_1, l32_2, l32_3, l32_4, l32_5, e5])
  · rw [if_pos h] at hh
    cases hx : wix k.2.2.1 with
    | some i =>
      rw [hx] at hh
      have hi := (wix_some hx).1
      rw [if_neg (fun q => by cases q.2)]
      have hh : mf_265 N s = some (s, some (.int (Int32.ofNat i))) := hh
      repeat ((first | unfold mf_266 | unfold mf_266_0 | unfold mf_266_8 | unfold mf_266_12 | unfold mf_266_15 | unfold mf_266_19 | unfold mf_266_20); try simp (disch := omega) only [ev_S, ev_P, ↓reduceIte, Nat.reduceEqDiff, Nat.reduceLeDiff, Nat.reduceAdd, Nat.reduceMul, Nat.reduceSub, reduceCtorEq, l32_0, l32_1, l32_2, l32_3, l32_4, l32_5, e5, hh])
    | none =>
      rw [hx] at hh
      rw [if_pos ⟨h, rfl⟩]
      have hh : mf_265 N s = some (s, some (.int (-Int32.ofNat 1))) := hh
      repeat ((first | unfold mf_266 | unfold mf_266_0 | unfold mf_266_8 | unfold mf_266_12 | unfold mf_266_15 | unfold mf_266_19 | unfold mf_266_20); try simp (disch := omega) only [ev_S, ev_P, ↓reduceIte, Nat.reduceEqDiff, Nat.reduceLeDiff, Nat.reduceAdd, Nat.reduceMul, Nat.reduceSub, reduceCtorEq, l32_0, l32_1, l32_2, l32_3, l32_4, l32_5, e5, hh])
  · rw [if_neg (by omega)]
    repeat ((first | unfold mf_266 | unfold mf_266_0 | unfold mf_266_8 | unfold mf_266_12 | unfold mf_266_15 | unfold mf_266_19 | unfold mf_266_20); try simp (disch := omega) only [ev_S, ev_P, ↓reduceIte, Nat.reduceEqDiff, Nat.reduceLeDiff, Nat.reduceAdd, Nat.reduceMul, Nat.reduceSub, reduceCtorEq, l32_0, l32_1, l32_2, l32_3, l32_4, l32_5, e5])
theorem r_isWord {w : Nat} (hw : rWd s) (hw2 : w < 41) (h : rTk s k) : mf_264 N (Int32.ofNat w) s = some (s, some (.int (if k.1 = 3 ∧ k.2.2.1 = wd w then 1 else 0))) := by
  have y2 := hw w hw2
  obtain ⟨w1, w2⟩ := wd_ok w hw2
  have hv := evB_27 w1 w2
  rcases h.2.2 with ⟨h, e5⟩ | ⟨h, e5⟩ | ⟨h, e5, -, -⟩ | ⟨h, e5, e7, h8, ho⟩ | ⟨h, h3, e5, e7⟩
  · rw [if_neg (by omega)]
    repeat ((first | unfold mf_264 | unfold mf_264_0 | unfold mf_264_8 | unfold mf_264_22 | unfold mf_264_26 | unfold mf_264_27); try simp (disch := omega) only [ev_S, ev_P, ↓reduceIte, Nat.reduceEqDiff, Nat.reduceLeDiff, Nat.reduceAdd, Nat.reduceMul, Nat.reduceSub, reduceCtorEq, l32_0, l32_1, l32_2, l32_3, l32_4, l32_5, l32_7, l32_41, e5])
  · rw [if_neg (by omega)]
    repeat ((first | unfold mf_264 | unfold mf_264_0 | unfold mf_264_8 | unfold mf_264_22 | unfold mf_264_26 | unfold mf_264_27); try simp (disch := omega) only [ev_S, ev_P, ↓reduceIte, Nat.reduceEqDiff, Nat.reduceLeDiff, Nat.reduceAdd, Nat.reduceMul, Nat.reduceSub, reduceCtorEq, l32_0, l32_1, l32_2, l32_3, l32_4, l32_5, l32_7, l32_41, e5])
  · rw [if_neg (by omega)]
    repeat ((first | unfold mf_264 | unfold mf_264_0 | unfold mf_264_8 | unfold mf_264_22 | unfold mf_264_26 | unfold mf_264_27); try simp (disch := omega) only [ev_S, ev_P, ↓reduceIte, Nat.reduceEqDiff, Nat.reduceLeDiff, Nat.reduceAdd, Nat.reduceMul, Nat.reduceSub, reduceCtorEq, l32_0, l32_1, l32_2, l32_3, l32_4, l32_5, l32_7, l32_41, e5])
  · have hv2 := evB_27 ho h8
    by_cases c : k.2.2.1 = wd w
    · rw [if_pos ⟨h, c⟩]
      rw [c] at e7
      repeat ((first | unfold mf_264 | unfold mf_264_0 | unfold mf_264_8 | unfold mf_264_22 | unfold mf_264_26 | unfold mf_264_27); try simp (disch := omega) only [ev_S, ev_P, ↓reduceIte, Nat.reduceEqDiff, Nat.reduceLeDiff, Nat.reduceAdd, Nat.reduceMul, Nat.reduceSub, reduceCtorEq, l32_0, l32_1, l32_2, l32_3, l32_4, l32_5, l32_7, l32_41, e5, e7, y2, lg_eq0, l32_41])
    · rw [if_neg (fun q => c q.2)]
      have hne2 : ¬ evB 27 k.2.2.1 = evB 27 (wd w) := fun e => c (evB_inj (by decide) ho w1 e)
      repeat ((first | unfold mf_264 | unfold mf_264_0 | unfold mf_264_8 | unfold mf_264_22 | unfold mf_264_26 | unfold mf_264_27); try simp (disch := omega) only [ev_S, ev_P, ↓reduceIte, Nat.reduceEqDiff, Nat.reduceLeDiff, Nat.reduceAdd, Nat.reduceMul, Nat.reduceSub, reduceCtorEq, l32_0, l32_1, l32_2, l32_3, l32_4, l32_5, l32_7, l32_41, e5, e7, y2, lg_eq0, hne2, l32_41])
  · rw [if_neg (by omega)]
    repeat ((first | unfold mf_264 | unfold mf_264_0 | unfold mf_264_8 | unfold mf_264_22 | unfold mf_264_26 | unfold mf_264_27); try simp (disch := omega) only [ev_S, ev_P, ↓reduceIte, Nat.reduceEqDiff, Nat.reduceLeDiff, Nat.reduceAdd, Nat.reduceMul, Nat.reduceSub, reduceCtorEq, l32_0, l32_1, l32_2, l32_3, l32_4, l32_5, l32_7, l32_41, e5])
/-- ( behind the token -/
theorem r_behind (hN : 170000 ≤ N) (hx : rTx s b n) (h : rTk s k) (he : k.2.2.2.2 ≤ n) : mf_270 N s = some (s, some (.int (if (lex b n k.2.2.2.2).1 = 40 then 1 else 0))) := by
  have e8 := h.2.1
  have hb := r_begin (N := N) hN hx he
  obtain ⟨k1, k2⟩ := sk_le (b := b) he
  have hx' := hx
  obtain ⟨-, h4, h5, -⟩ := hx'
  have hy := r_byte (N := N) hx (a := sk b n k.2.2.2.2) (by omega)
  have key : (lex b n k.2.2.2.2).1 = 40 ↔ (if sk b n k.2.2.2.2 < n then b (sk b n k.2.2.2.2) else 0) = 40 := by
    unfold lex
    generalize sk b n k.2.2.2.2 = a at *
    unfold tkA
    by_cases c : a < n
    · rw [if_pos c, if_pos c]
      by_cases cl : 97 ≤ b a ∧ b a ≤ 122
      · rw [if_pos cl]
        unfold tkW
        split <;> exact ⟨fun q => (by cases q), fun q => by omega⟩
      · rw [if_neg cl]
        by_cases cd : 48 ≤ b a ∧ b a ≤ 57
        · rw [if_pos cd]
          unfold tkN
          split <;> exact ⟨fun q => (by cases q), fun q => by omega⟩
        · rw [if_neg cd]
          unfold tkS
          split
          · rename_i q
            have := eqB_iff.mp q.1
            unfold isEq at this
            exact ⟨fun z => by have z : b a + 256 = 40 := z; omega, fun z => by omega⟩
          · split
            · exact Iff.rfl
            · rename_i q
              exact ⟨fun z => (by cases z), fun z => absurd (sgB_iff.mpr (by rw [z]; unfold isSg; omega)) q⟩
    · rw [if_neg c, if_neg c]
  have hc : (if sk b n k.2.2.2.2 < n then b (sk b n k.2.2.2.2) else 0) < 256 := by
    split
    · exact h5 _
    · decide
  generalize (if sk b n k.2.2.2.2 < n then b (sk b n k.2.2.2.2) else 0) = c at *
  by_cases e : c = 40
  · rw [if_pos (key.mpr e)]
    repeat ((first | unfold mf_270 | unfold mf_270_0 | unfold mf_270_9 | unfold mf_270_12 | unfold mf_270_17 | unfold mf_270_21 | unfold mf_270_22); try simp (disch := omega) only [ev_S, ev_P, ↓reduceIte, Nat.reduceEqDiff, Nat.reduceLeDiff, Nat.reduceAdd, Nat.reduceMul, Nat.reduceSub, reduceCtorEq, l32_0, l32_1, l32_2, l32_3, l32_4, l32_8, l32_40, e8, hb, hy, e, l32_40])
  · rw [if_neg (fun q => e (key.mp q))]
    repeat ((first | unfold mf_270 | unfold mf_270_0 | unfold mf_270_9 | unfold mf_270_12 | unfold mf_270_17 | unfold mf_270_21 | unfold mf_270_22); try simp (disch := omega) only [ev_S, ev_P, ↓reduceIte, Nat.reduceEqDiff, Nat.reduceLeDiff, Nat.reduceAdd, Nat.reduceMul, Nat.reduceSub, reduceCtorEq, l32_0, l32_1, l32_2, l32_3, l32_4, l32_8, l32_40, e8, hb, hy, e, l32_40])
end RLK
