/-! ===== PURE: a number is told ===== -/
theorem l64_0 : (0 : Int64) = Int64.ofNat 0 := rfl
theorem l64_1 : (1 : Int64) = Int64.ofNat 1 := rfl
theorem l64_9 : (9 : Int64) = Int64.ofNat 9 := rfl
theorem l64_10 : (10 : Int64) = Int64.ofNat 10 := rfl
theorem l64_48 : (48 : Int64) = Int64.ofNat 48 := rfl
theorem i64add {a b : Nat} : Int64.ofNat a + Int64.ofNat b = Int64.ofNat (a + b) := (Int64.ofNat_add a b).symm
theorem i64mul {a b : Nat} : Int64.ofNat a * Int64.ofNat b = Int64.ofNat (a * b) := (Int64.ofNat_mul a b).symm
theorem i64sub {a b : Nat} (h : b ≤ a) : Int64.ofNat a - Int64.ofNat b = Int64.ofNat (a - b) := (Int64.ofNat_sub a b h).symm
theorem i64eq' {a b : Nat} (ha : a < 9223372036854775808) (hb : b < 9223372036854775808) : (Int64.ofNat a = Int64.ofNat b) = (a = b) := propext (i64eq ha hb)
theorem ev_pm {m : Nat} : Int32.ofNat (m + 1) + -Int32.ofNat 1 = Int32.ofNat m := by
  rw [← Int32.sub_eq_add_neg, ev_sub (by omega), Nat.add_sub_cancel]
theorem ev_pm0 : Int32.ofNat 0 + -Int32.ofNat 1 = -Int32.ofNat 1 := by decide
theorem jA_jA {t : cS} {k : Nat} {g g' : Nat → Int32} : jA (jA t k g) k g' = jA t k g' := by
  have e : (fun a => if a = k then ((kA (jA t k g) k).1, g') else kA (jA t k g) a) = fun a => if a = k then ((kA t k).1, g') else kA t a := by
    funext a
    by_cases c : a = k
    · rw [if_pos c, if_pos c]
      show ((if k = k then ((kA t k).1, g) else kA t k).1, g') = _
      rw [if_pos rfl]
    · rw [if_neg c, if_neg c]
      exact if_neg c
  show (kI t, kL t, kP t, _, t.2.2.2.2) = (kI t, kL t, kP t, _, t.2.2.2.2)
  rw [e]
section NUM
variable {N : Nat} {X : Nat → Option zz_C} {t : cS} {s : mS} {l : List Int32}
theorem dg_eq {w : Nat} : nb (Int32.ofNat (48 + (w - w / 10 * 10))) = dg w := by
  rw [← nb_dg]
  unfold dg
  rw [show w - w / 10 * 10 = w % 10 by omega]
theorem c_dig (h10 : (kA t 47).1 = 10) : ∀ (f w c q : Nat) (g : Nat → Int32), w < 10 ^ (f + 1) → w ≤ 2147483648 → c + f ≤ 9 → ∃ g', cf_172_L3 N X (q + (f + 1)) 0 (Int64.ofNat w) (Int32.ofNat c) (jA t 47 g) = cf_172_59 N X (Int32.ofNat (c + (dgL f w).length)) (jA t 47 g') ∧ (∀ i (hi : i < (dgL f w).length), g' (c + i) = (dgL f w)[i]) ∧ (∀ i, i < c → g' i = g i) := by
  have last : ∀ (w c q : Nat) (g : Nat → Int32), w < 10 → c ≤ 9 → cf_172_L3 N X (q + 1) 0 (Int64.ofNat w) (Int32.ofNat c) (jA t 47 g) = cf_172_59 N X (Int32.ofNat (c + 1)) (jA t 47 (upd g c (dg w))) := fun w c q g hw hc => by
    show cf_172_19 N X (cf_172_L3 N X q) (Int64.ofNat w) (Int32.ofNat c) (jA t 47 g) = _
    have e0 : w / 10 = 0 := by omega
    have e9 := dg_eq (w := w)
    unfold cf_172_19
    simp (disch := omega) only [ev_S, ev_C, ↓reduceIte, Nat.reduceEqDiff, Nat.reduceLeDiff, Nat.reduceAdd, Nat.reduceMul, Nat.reduceSub, reduceCtorEq, l32_0, l32_1, l32_2, l32_3, l32_4, l32_5, l32_6, l32_7, l32_8, l32_9, l32_10, l64_0, l64_10, l64_48, i64div, i64mul, i64sub, i64add, i64eq', Int64.toInt32_ofNat', lg_le, h10, jA_jA, e9]
  intro f
  induction f with
  | zero =>
    intro w c q g hw hw2 hc
    refine ⟨upd g c (dg w), last w c q g (by rw [Nat.zero_add, Nat.pow_one] at hw; exact hw) (by omega), fun i hi => ?_, fun i hi => if_neg (by omega)⟩
    have hi : i < 1 := hi
    have e : i = 0 := by omega
    subst e
    exact if_pos rfl
  | succ f ih =>
    intro w c q g hw hw2 hc
    by_cases h10' : w < 10
    · have ed : dgL (f + 1) w = [dg w] := if_pos h10'
      rw [ed]
      refine ⟨upd g c (dg w), ?_, fun i hi => ?_, fun i hi => if_neg (by omega)⟩
      · rw [← Nat.add_assoc]
        exact last w c (q + (f + 1)) g h10' (by omega)
      · have hi : i < 1 := hi
        have e : i = 0 := by omega
        subst e
        exact if_pos rfl
    · have ed : dgL (f + 1) w = dg w :: dgL f (w / 10) := if_neg h10'
      obtain ⟨g', k1, k2, k3⟩ := ih (w / 10) (c + 1) q (upd g c (dg w)) (by rw [Nat.pow_succ] at hw; omega) (by omega) (by omega)
      rw [ed]
      refine ⟨g', ?_, fun i hi => ?_, fun i hi => (k3 i (by omega)).trans (if_neg (by omega))⟩
      · rw [List.length_cons, show c + ((dgL f (w / 10)).length + 1) = c + 1 + (dgL f (w / 10)).length by omega, ← k1]
        show cf_172_19 N X (cf_172_L3 N X (q + (f + 1))) (Int64.ofNat w) (Int32.ofNat c) (jA t 47 g) = _
        have e9 := dg_eq (w := w)
        unfold cf_172_19 cf_172_52
        simp (disch := omega) only [ev_S, ev_C, ↓reduceIte, Nat.reduceEqDiff, Nat.reduceLeDiff, Nat.reduceAdd, Nat.reduceMul, Nat.reduceSub, reduceCtorEq, l32_0, l32_1, l32_2, l32_3, l32_4, l32_5, l32_6, l32_7, l32_8, l32_9, l32_10, l64_0, l64_10, l64_48, i64div, i64mul, i64sub, i64add, i64eq', Int64.toInt32_ofNat', lg_le, h10, jA_jA, e9]
      · cases i with
        | zero =>
          rw [Nat.add_zero, k3 c (by omega)]
          exact if_pos rfl
        | succ i =>
          have hi : i + 1 < (dgL f (w / 10)).length + 1 := by
            rw [List.length_cons] at hi
            exact hi
          rw [show c + (i + 1) = c + 1 + i by omega, k2 i (by omega)]
          rfl
/-- the digits, the last first -/
def dnL (g : Nat → Int32) : Nat → List Int32
  | 0 => [g 0]
  | m + 1 => g (m + 1) :: dnL g m
theorem c_digits {g : Nat → Int32} : ∀ (m q : Nat) (t : cS) (l : List Int32), m ≤ 9 → cOut t l → l.length < 1900000000 - m → (kA t 47).2 = g → ∃ t', cf_172_L1 N X (q + (m + 2)) 0 (Int32.ofNat m) t = some (t', .inl none) ∧ cOut t' (l ++ (dnL g m).map nb) ∧ ofr t t' := by
  intro m
  induction m with
  | zero =>
    intro q t l hm h hl hg
    obtain ⟨t1, a1, a2, a3, a4⟩ := c_says (N := N) (X := X) (c := (kA t 47).2 0) h (by omega)
    have h6 := h.2.2.2.2.2.1
    refine ⟨t1, ?_, ?_, a3⟩
    · show cf_172_65 N X (cf_172_L1 N X (q + 1)) (Int32.ofNat 0) t = _
      have e : cf_172_L1 N X (q + 1) 0 (-Int32.ofNat 1) t1 = some (t1, .inl none) := by
        show cf_172_65 N X (cf_172_L1 N X q) (-Int32.ofNat 1) t1 = _
        unfold cf_172_65 cf_172_87
        simp (disch := omega) only [ev_S, ev_C, ↓reduceIte, Nat.reduceEqDiff, Nat.reduceLeDiff, Nat.reduceAdd, Nat.reduceMul, Nat.reduceSub, reduceCtorEq, l32_0, l32_1, l32_2, l32_3, l32_4, l32_5, l32_6, l32_7, l32_8, l32_9, l32_10, a4]
      unfold cf_172_65 cf_172_70 cf_172_81
      simp (disch := omega) only [ev_S, ev_C, ↓reduceIte, Nat.reduceEqDiff, Nat.reduceLeDiff, Nat.reduceAdd, Nat.reduceMul, Nat.reduceSub, reduceCtorEq, l32_0, l32_1, l32_2, l32_3, l32_4, l32_5, l32_6, l32_7, l32_8, l32_9, l32_10, h6, a1, ev_pm0, e]
    · rw [hg] at a2
      exact a2
  | succ m ih =>
    intro q t l hm h hl hg
    obtain ⟨t1, a1, a2, a3, a4⟩ := c_says (N := N) (X := X) (c := (kA t 47).2 (m + 1)) h (by omega)
    have h6 := h.2.2.2.2.2.1
    obtain ⟨t', b1, b2, b3⟩ := ih q t1 (l ++ [nb ((kA t 47).2 (m + 1))]) (by omega) a2 (by rw [List.length_append]; show l.length + 1 < _; omega) (by rw [a4]; exact hg)
    refine ⟨t', ?_, ?_, a3.tr b3⟩
    · rw [← b1]
      show cf_172_65 N X (cf_172_L1 N X (q + (m + 2))) (Int32.ofNat (m + 1)) t = _
      unfold cf_172_65 cf_172_70 cf_172_81
      simp (disch := omega) only [ev_S, ev_C, ↓reduceIte, Nat.reduceEqDiff, Nat.reduceLeDiff, Nat.reduceAdd, Nat.reduceMul, Nat.reduceSub, reduceCtorEq, l32_0, l32_1, l32_2, l32_3, l32_4, l32_5, l32_6, l32_7, l32_8, l32_9, l32_10, h6, a1, ev_pm]
    · rw [List.append_assoc, hg] at b2
      exact b2
theorem dn_rev {g : Nat → Int32} : ∀ (D : List Int32) (c : Nat), (∀ i (hi : i < D.length), g (c + i) = D[i]) → 0 < D.length → ∀ m, m + 1 = D.length → c = 0 → dnL g m = D.reverse := by
  intro D c h _ m hm hc
  subst hc
  have key : ∀ m, m < D.length → dnL g m = (D.take (m + 1)).reverse := by
    intro m
    induction m with
    | zero =>
      intro hm
      have := h 0 hm
      rw [Nat.zero_add] at this
      show [g 0] = _
      rw [this, List.take_succ_eq_append_getElem hm, List.take_zero]
      rfl
    | succ m ih =>
      intro hm
      have := h (m + 1) hm
      rw [Nat.zero_add] at this
      show g (m + 1) :: dnL g m = _
      rw [this, ih (by omega), List.take_succ_eq_append_getElem hm, List.reverse_append]
      rfl
  rw [key m (by omega), hm, List.take_length]
theorem cOut_jA {g : Nat → Int32} (h : cOut t l) : cOut (jA t 47 g) l := h
theorem ofr_jA {g : Nat → Int32} : ofr t (jA t 47 g) := ⟨fun _ _ _ => rfl, rfl, rfl, fun k r1 r2 r3 => ⟨if_neg r2, rfl, rfl⟩, rfl, rfl, Nat.le_refl _, Nat.le_refl _, Nat.le_refl _⟩
theorem jA_id : jA t 47 (kA t 47).2 = t := by
  have e : (fun a => if a = 47 then ((kA t 47).1, (kA t 47).2) else kA t a) = kA t := by
    funext a
    by_cases c : a = 47
    · rw [if_pos c, c]
    · rw [if_neg c]
  show (kI t, kL t, kP t, _, t.2.2.2.2) = t
  rw [e]
  rfl
theorem c_numW {w : Nat} (hN : 170000 ≤ N) (h : cOut t l) (hl : l.length < 1800000000) (hw : w ≤ 2147483648) : ∃ t', cf_172_L3 N X N 0 (Int64.ofNat w) (Int32.ofNat 0) t = some (t', .inl none) ∧ cOut t' (l ++ ((dgL 9 w).reverse).map nb) ∧ ofr t t' := by
  have h10 := h.2.2.2.2.2.1
  have e10 : (10 : Nat) ^ (9 + 1) = 10000000000 := by decide
  obtain ⟨g', a1, a2, a3⟩ := c_dig (N := N) (X := X) h10 9 w 0 (N - 10) (kA t 47).2 (by omega) hw (by omega)
  rw [jA_id, show N - 10 + (9 + 1) = N by omega] at a1
  have hlen := dgL_len 9 w
  obtain ⟨m, hm⟩ : ∃ m, (dgL 9 w).length = m + 1 := ⟨(dgL 9 w).length - 1, by omega⟩
  obtain ⟨t', b1, b2, b3⟩ := c_digits (N := N) (X := X) (g := g') m (N - (m + 2)) (jA t 47 g') l (by omega) (cOut_jA h) (by omega) rfl
  rw [show N - (m + 2) + (m + 2) = N by omega] at b1
  rw [dn_rev (dgL 9 w) 0 a2 (by omega) m hm.symm rfl] at b2
  refine ⟨t', ?_, b2, ofr_jA.tr b3⟩
  rw [a1, hm]
  unfold cf_172_59
  have e : Int32.ofNat (0 + (m + 1)) - 1 = Int32.ofNat m := by
    rw [Nat.zero_add, show (1 : Int32) = Int32.ofNat 1 from rfl, ev_sub (by omega), Nat.add_sub_cancel]
  rw [e]
  exact b1
theorem c_number {z : Int32} (hN : 170000 ≤ N) (h : cOut t l) (hl : l.length < 1700000000) : ∃ t', cf_172 N X z t = some (t', .inl none) ∧ cOut t' (l ++ (numL z).map nb) ∧ ofr t t' := by
  have hw := wN_le z
  by_cases c : z < 0
  · obtain ⟨t1, a1, a2, a3, a4⟩ := c_says (N := N) (X := X) (c := 45) h (by omega)
    obtain ⟨t', b1, b2, b3⟩ := c_numW (N := N) (X := X) (w := wN z) hN a2 (by rw [List.length_append]; show l.length + 1 < _; omega) hw
    refine ⟨t', ?_, ?_, a3.tr b3⟩
    · rw [← b1]
      have c1 : ¬ (0 : Int32) ≤ z := fun q => by
        have q1 := Int32.le_iff_toInt_le.mp q
        have q2 := Int32.lt_iff_toInt_lt.mp c
        omega
      unfold cf_172 cf_172_0 cf_172_4
      rw [if_neg c1, a1]
      show cf_172_10 N X z t1 = _
      unfold cf_172_10
      rw [if_neg (fun q => by
        have q1 := Int64.lt_iff_toInt_lt.mp q
        rw [Int32.toInt_toInt64] at q1
        have q2 := Int32.lt_iff_toInt_lt.mp c
        have e1 : (0 : Int64).toInt = 0 := by decide
        have e2 : (0 : Int32).toInt = 0 := by decide
        omega), neg64 c]
      rfl
    · have e : numL z = [45] ++ (dgL 9 (wN z)).reverse := by
        unfold numL
        rw [if_pos c]
      rw [List.append_assoc] at b2
      rw [e, List.map_append]
      exact b2
  · obtain ⟨t', b1, b2, b3⟩ := c_numW (N := N) (X := X) (w := wN z) hN h (by omega) hw
    refine ⟨t', ?_, ?_, b3⟩
    · rw [← b1]
      have c1 : (0 : Int32) ≤ z := by
        rw [Int32.le_iff_toInt_le]
        by_cases q : z.toInt < (0 : Int32).toInt
        · exact absurd (Int32.lt_iff_toInt_lt.mpr q) c
        · omega
      unfold cf_172 cf_172_0 cf_172_10
      rw [if_pos c1, pos64 c]
      have e : (if (0 : Int64) < Int64.ofNat (wN z) then Int64.ofNat (wN z) else -(Int64.ofNat (wN z))) = Int64.ofNat (wN z) := by
        by_cases q : wN z = 0
        · rw [q]
          rfl
        · rw [if_pos (show (0 : Int64) < Int64.ofNat (wN z) from (i64lt (a := 0) (by decide) (by omega)).mpr (by omega))]
      rw [e]
      rfl
    · have e : numL z = (dgL 9 (wN z)).reverse := by
        unfold numL
        rw [if_neg c]
        rfl
      rw [e]
      exact b2
end NUM
