/-! ===== PURE: a variable is named (both sides) ===== -/
/-- the function's variables -/
def VR (vs : List (List Nat)) (t : cS) (s : mS) : Prop := vs.length ≤ 14 ∧ kI t 2 4 = Int32.ofNat vs.length ∧ (kB t 7).1 = 14 ∧ s.1 22 = Int32.ofNat vs.length ∧ ∀ i (hi : i < vs.length), (kB t 7).2 i = Int64.ofNat (evB 32 vs[i]) ∧ s.2.2.2 21 i = Int64.ofNat (evB 27 vs[i]) ∧ okL vs[i] ∧ vs[i].length ≤ 8
/-- where a list has it -/
theorem fnd (vs : List (List Nat)) (ls : List Nat) : ∃ m, m ≤ vs.length ∧ (∀ j (hj : j < vs.length), j < m → ¬ vs[j] = ls) ∧ (∀ hm : m < vs.length, vs[m] = ls) := by
  induction vs with
  | nil => exact ⟨0, Nat.le_refl _, fun j hj => absurd hj (Nat.not_lt_zero _), fun hm => absurd hm (Nat.not_lt_zero _)⟩
  | cons a vs ih =>
    by_cases c : a = ls
    · exact ⟨0, Nat.zero_le _, fun j _ hj => absurd hj (Nat.not_lt_zero _), fun _ => c⟩
    · obtain ⟨m, h1, h2, h3⟩ := ih
      refine ⟨m + 1, Nat.succ_le_succ h1, fun j hj hjm => ?_, fun hm => h3 (Nat.lt_of_succ_lt_succ hm)⟩
      cases j with
      | zero => exact c
      | succ j => exact h2 j (Nat.lt_of_succ_lt_succ hj) (by omega)
theorem evB_one {B : Nat} (hB : 27 ≤ B) {l : List Nat} (h : okL l) : (evB B l ≤ 8 ∧ 1 ≤ evB B l) ↔ ∃ d, l = [d] ∧ 1 ≤ d ∧ d ≤ 8 := by
  constructor
  · intro q
    match l, h, q with
    | [], h, q =>
      have q2 : 1 ≤ 0 := q.2
      omega
    | [d], h, q =>
      have e : evB B [d] = d := by
        show B * 0 + d = d
        omega
      rw [e] at q
      exact ⟨d, rfl, q.2, q.1⟩
    | d :: d' :: r, h, q =>
      have h1 := h d' (List.mem_cons_of_mem _ List.mem_cons_self)
      have e : evB B (d :: d' :: r) = B * (B * evB B r + d') + d := rfl
      rw [e] at q
      have : B * 1 ≤ B * (B * evB B r + d') := Nat.mul_le_mul_left _ (by omega)
      omega
  · rintro ⟨d, rfl, h1, h2⟩
    have e : evB B [d] = d := by
      show B * 0 + d = d
      omega
    rw [e]
    exact ⟨h2, h1⟩
theorem l64_8 : (8 : Int64) = Int64.ofNat 8 := rfl
theorem lg_lt0 {a b : Nat} (ha : a < 9223372036854775808) (hb : b < 9223372036854775808) : (lg_cmp (Int64.ofNat a) (Int64.ofNat b) < Int32.ofNat 0) = (a < b) := by
  unfold lg_cmp
  apply propext
  by_cases c : b < a
  · rw [if_pos (show Int64.ofNat a > Int64.ofNat b from (i64lt hb ha).mpr c)]
    exact ⟨fun q => absurd q (by decide), fun q => by omega⟩
  · rw [if_neg (fun q => c ((i64lt hb ha).mp q))]
    by_cases d : a = b
    · rw [if_pos (by rw [d])]
      exact ⟨fun q => absurd q (by decide), fun q => by omega⟩
    · rw [if_neg (fun q => d ((i64eq ha hb).mp q))]
      exact ⟨fun _ => by omega, fun _ => by decide⟩
theorem lg_gt0 {a b : Nat} (ha : a < 9223372036854775808) (hb : b < 9223372036854775808) : (Int32.ofNat 0 < lg_cmp (Int64.ofNat a) (Int64.ofNat b)) = (b < a) := by
  unfold lg_cmp
  apply propext
  by_cases c : b < a
  · rw [if_pos (show Int64.ofNat a > Int64.ofNat b from (i64lt hb ha).mpr c)]
    exact ⟨fun _ => c, fun _ => by decide⟩
  · rw [if_neg (fun q => c ((i64lt hb ha).mp q))]
    refine ⟨fun q => ?_, fun q => absurd q c⟩
    split at q
    · exact absurd q (by decide)
    · exact absurd q (by decide)
section VAR
variable {N : Nat} {X : Nat → Option zz_C} {t : cS} {s : mS} {b : Nat → Nat} {n i op : Nat} {vs : List (List Nat)} {ls : List Nat}
/-- a shelf's name -/
def isH (ls : List Nat) : Prop := ∃ d, ls = [d] ∧ 1 ≤ d ∧ d ≤ 8
theorem c_namesShelf (ho : okL ls) (h8 : ls.length ≤ 8) : (isH ls → cf_197 N X (Int64.ofNat (evB 32 ls)) t = some (t, .inl (some (.int 1)))) ∧ (¬ isH ls → cf_197 N X (Int64.ofNat (evB 32 ls)) t = some (t, .inl (some (.int 0)))) := by
  have hv := evB_32 ho h8
  have key := evB_one (B := 32) (by decide) ho
  constructor
  · intro h
    obtain ⟨k1, k2⟩ := key.mpr h
    repeat ((first | unfold cf_197 | unfold cf_197_0 | unfold cf_197_6 | unfold cf_197_14 | unfold cf_197_18 | unfold cf_197_19); try simp (disch := omega) only [ev_S, ev_C, ↓reduceIte, Nat.reduceEqDiff, Nat.reduceLeDiff, Nat.reduceAdd, Nat.reduceMul, Nat.reduceSub, reduceCtorEq, l32_0, l32_1, l32_2, l32_3, l32_4, l32_8, l64_1, l64_8, lg_lt0, lg_gt0])
  · intro h
    have : ¬ (evB 32 ls ≤ 8 ∧ 1 ≤ evB 32 ls) := fun q => h (key.mp q)
    by_cases c : evB 32 ls < 1
    · repeat ((first | unfold cf_197 | unfold cf_197_0 | unfold cf_197_6 | unfold cf_197_14 | unfold cf_197_18 | unfold cf_197_19); try simp (disch := omega) only [ev_S, ev_C, ↓reduceIte, Nat.reduceEqDiff, Nat.reduceLeDiff, Nat.reduceAdd, Nat.reduceMul, Nat.reduceSub, reduceCtorEq, l32_0, l32_1, l32_2, l32_3, l32_4, l32_8, l64_1, l64_8, lg_lt0, lg_gt0])
    · have c2 : 8 < evB 32 ls := by omega
      repeat ((first | unfold cf_197 | unfold cf_197_0 | unfold cf_197_6 | unfold cf_197_14 | unfold cf_197_18 | unfold cf_197_19); try simp (disch := omega) only [ev_S, ev_C, ↓reduceIte, Nat.reduceEqDiff, Nat.reduceLeDiff, Nat.reduceAdd, Nat.reduceMul, Nat.reduceSub, reduceCtorEq, l32_0, l32_1, l32_2, l32_3, l32_4, l32_8, l64_1, l64_8, lg_lt0, lg_gt0])
theorem r_isShelf (ho : okL ls) (h8 : ls.length ≤ 8) : (isH ls → mf_274 N (Int64.ofNat (evB 27 ls)) s = some (s, some (.int 1))) ∧ (¬ isH ls → mf_274 N (Int64.ofNat (evB 27 ls)) s = some (s, some (.int 0))) := by
  have hv := evB_27 ho h8
  have key := evB_one (B := 27) (by decide) ho
  constructor
  · intro h
    obtain ⟨k1, k2⟩ := key.mpr h
    repeat ((first | unfold mf_274 | unfold mf_274_0 | unfold mf_274_6 | unfold mf_274_14 | unfold mf_274_18 | unfold mf_274_19); try simp (disch := omega) only [ev_S, ev_P, ↓reduceIte, Nat.reduceEqDiff, Nat.reduceLeDiff, Nat.reduceAdd, Nat.reduceMul, Nat.reduceSub, reduceCtorEq, l32_0, l32_1, l32_2, l32_3, l32_4, l32_8, l64_1, l64_8, lg_lt0, lg_gt0])
  · intro h
    have : ¬ (evB 27 ls ≤ 8 ∧ 1 ≤ evB 27 ls) := fun q => h (key.mp q)
    by_cases c : evB 27 ls < 1
    · repeat ((first | unfold mf_274 | unfold mf_274_0 | unfold mf_274_6 | unfold mf_274_14 | unfold mf_274_18 | unfold mf_274_19); try simp (disch := omega) only [ev_S, ev_P, ↓reduceIte, Nat.reduceEqDiff, Nat.reduceLeDiff, Nat.reduceAdd, Nat.reduceMul, Nat.reduceSub, reduceCtorEq, l32_0, l32_1, l32_2, l32_3, l32_4, l32_8, l64_1, l64_8, lg_lt0, lg_gt0])
    · have c2 : 8 < evB 27 ls := by omega
      repeat ((first | unfold mf_274 | unfold mf_274_0 | unfold mf_274_6 | unfold mf_274_14 | unfold mf_274_18 | unfold mf_274_19); try simp (disch := omega) only [ev_S, ev_P, ↓reduceIte, Nat.reduceEqDiff, Nat.reduceLeDiff, Nat.reduceAdd, Nat.reduceMul, Nat.reduceSub, reduceCtorEq, l32_0, l32_1, l32_2, l32_3, l32_4, l32_8, l64_1, l64_8, lg_lt0, lg_gt0])
theorem c_varNumber {m : Nat} (hN : 170000 ≤ N) (h : VR vs t s) (ho : okL ls) (h8 : ls.length ≤ 8) (hm : m ≤ vs.length) (h1 : ∀ j (hj : j < vs.length), j < m → ¬ vs[j] = ls) (h2 : ∀ hm : m < vs.length, vs[m] = ls) : cf_196 N X (Int64.ofNat (evB 32 ls)) t = some (t, .inl (some (.int (if m < vs.length then Int32.ofNat m else -1)))) := by
  obtain ⟨a1, a2, a3, a4, a5⟩ := h
  have hv := evB_32 ho h8
  have go : ∀ d j q, j + d = m → cf_196_L2 N X (q + (d + 1)) 0 (Int64.ofNat (evB 32 ls)) (Int32.ofNat j) t = some (t, .inl (some (.int (if m < vs.length then Int32.ofNat m else -1)))) := by
    intro d
    induction d with
    | zero =>
      intro j q hj
      have hj : j = m := hj
      subst hj
      show cf_196_2 N X (cf_196_L2 N X q) (Int64.ofNat (evB 32 ls)) (Int32.ofNat j) t = _
      by_cases c : j < vs.length
      · rw [if_pos c]
        have y := (a5 j c).1
        rw [h2 c] at y
        unfold cf_196_2 cf_196_10 cf_196_21
        simp (disch := omega) only [ev_S, ev_C, ↓reduceIte, Nat.reduceEqDiff, Nat.reduceLeDiff, Nat.reduceAdd, Nat.reduceMul, Nat.reduceSub, reduceCtorEq, l32_0, l32_1, l32_2, l32_3, l32_4, l32_5, l32_6, l32_7, l32_8, l32_9, l32_10, a2, a3, y, lg_eq0]
      · rw [if_neg c]
        unfold cf_196_2 cf_196_29
        simp (disch := omega) only [ev_S, ev_C, ↓reduceIte, Nat.reduceEqDiff, Nat.reduceLeDiff, Nat.reduceAdd, Nat.reduceMul, Nat.reduceSub, reduceCtorEq, l32_0, l32_1, l32_2, l32_3, l32_4, l32_5, l32_6, l32_7, l32_8, l32_9, l32_10, a2]
    | succ d ih =>
      intro j q hj
      have hj1 : j < vs.length := by omega
      obtain ⟨y, -, y2, y3⟩ := a5 j hj1
      have hw := evB_32 y2 y3
      have hne : ¬ evB 32 vs[j] = evB 32 ls := fun e => h1 j hj1 (by omega) (evB_inj (by decide) y2 ho e)
      rw [← ih (j + 1) q (by omega)]
      show cf_196_2 N X (cf_196_L2 N X (q + (d + 1))) (Int64.ofNat (evB 32 ls)) (Int32.ofNat j) t = _
      unfold cf_196_2 cf_196_10 cf_196_23
      simp (disch := omega) only [ev_S, ev_C, ↓reduceIte, Nat.reduceEqDiff, Nat.reduceLeDiff, Nat.reduceAdd, Nat.reduceMul, Nat.reduceSub, reduceCtorEq, l32_0, l32_1, l32_2, l32_3, l32_4, l32_5, l32_6, l32_7, l32_8, l32_9, l32_10, a2, a3, y, lg_eq0, hne]
  have e := go m 0 (N - (m + 1)) (Nat.zero_add _)
  rw [show N - (m + 1) + (m + 1) = N by omega] at e
  exact e
theorem r_varFind {m : Nat} (h : VR vs t s) (ho : okL ls) (h8 : ls.length ≤ 8) (e7 : s.2.1 7 = Int64.ofNat (evB 27 ls)) (hm : m ≤ vs.length) (h1 : ∀ j (hj : j < vs.length), j < m → ¬ vs[j] = ls) (h2 : ∀ hm : m < vs.length, vs[m] = ls) : ∀ d j q, j + d = m → mf_275_L7 N (q + (d + 1)) 0 (Int32.ofNat j) s = mf_275_76 N (Int32.ofNat m) s := by
  obtain ⟨a1, a2, a3, a4, a5⟩ := h
  have hv := evB_27 ho h8
  intro d
  induction d with
  | zero =>
    intro j q hj
    have hj : j = m := hj
    subst hj
    show mf_275_48 N (mf_275_L7 N q) (Int32.ofNat j) s = _
    by_cases c : j < vs.length
    · have y := (a5 j c).2.1
      rw [h2 c] at y
      unfold mf_275_48 mf_275_56
      simp (disch := omega) only [ev_S, ev_P, ↓reduceIte, Nat.reduceEqDiff, Nat.reduceLeDiff, Nat.reduceAdd, Nat.reduceMul, Nat.reduceSub, reduceCtorEq, l32_0, l32_1, l32_2, l32_3, l32_4, l32_5, l32_6, l32_7, l32_8, l32_9, l32_10, a4, y, e7, lg_eq0, l32_14]
    · unfold mf_275_48
      simp (disch := omega) only [ev_S, ev_P, ↓reduceIte, Nat.reduceEqDiff, Nat.reduceLeDiff, Nat.reduceAdd, Nat.reduceMul, Nat.reduceSub, reduceCtorEq, l32_0, l32_1, l32_2, l32_3, l32_4, l32_5, l32_6, l32_7, l32_8, l32_9, l32_10, a4]
  | succ d ih =>
    intro j q hj
    have hj1 : j < vs.length := by omega
    obtain ⟨-, y, y2, y3⟩ := a5 j hj1
    have hw := evB_27 y2 y3
    have hne : ¬ evB 27 vs[j] = evB 27 ls := fun e => h1 j hj1 (by omega) (evB_inj (by decide) y2 ho e)
    rw [← ih (j + 1) q (by omega)]
    show mf_275_48 N (mf_275_L7 N (q + (d + 1))) (Int32.ofNat j) s = _
    unfold mf_275_48 mf_275_56 mf_275_70
    simp (disch := omega) only [ev_S, ev_P, ↓reduceIte, Nat.reduceEqDiff, Nat.reduceLeDiff, Nat.reduceAdd, Nat.reduceMul, Nat.reduceSub, reduceCtorEq, l32_0, l32_1, l32_2, l32_3, l32_4, l32_5, l32_6, l32_7, l32_8, l32_9, l32_10, a4, y, e7, lg_eq0, hne, l32_14]
end VAR
